/-! THE LAW ON SCRIPTS OF AT MOST SIX INTS -/
def bm_okl (ρ : Nat → Int32) : Nat → List (Int × Int) → Prop
  | _, [] => True
  | i, q :: r => (q.1 ≤ (ρ i).toInt ∧ (ρ i).toInt ≤ q.2) ∧ bm_okl ρ (i + 1) r
theorem bm_okl_get {ρ : Nat → Int32} : ∀ (l : List (Int × Int)) (b i : Nat) (q : Int × Int), bm_okl ρ b l → l[i]? = some q → q.1 ≤ (ρ (b + i)).toInt ∧ (ρ (b + i)).toInt ≤ q.2
  | [], _, _, _, _, h => by simp at h
  | q0 :: r, b, i, q, h, hi => by
    cases i with
    | zero => cases hi; exact h.1
    | succ i =>
      have := bm_okl_get r (b + 1) i q h.2 hi
      rwa [show b + (i + 1) = b + 1 + i by omega]
theorem bm_okO {xs : Nat → Int32} {L : Nat} {k : Int32} {l : List (Int × Int)} (h : bm_okl xs 0 l) (hk : xs 0 &&& 63 = k) : bm_ok (L, k, l) xs :=
  ⟨fun i q hq => by have := bm_okl_get l 0 i q h hq; rwa [Nat.zero_add] at this, fun _ => hk⟩
section BML
variable {p : Program} {e : Env} {s : State} {m : MethodId} {below : List Frame} {meth : Method} {c : Code} {l : Launch} {b : Nat} {xs : Nat → Int32}
abbrev bm_Goal (p : Program) (l : Launch) (e : Env) (s : State) (m : MethodId) (below : List Frame) (meth : Method) (c : Code) (b : Nat) : Prop := W p l e room_1 s m #[Value.ref b] below meth c s.heap [] 0 0 (lw_Z below #[Value.ref b] s) (entryFrame m ([Value.ref b] : List Value).toArray 4)
theorem bm_leaf {k : Int32} {L : Nat} {q : List (Int × Int)} (C0 : lw_At p s m meth c b L xs) (hk : xs 0 &&& 63 = k) (h : bm_okl xs 0 q) (hc : bm_chk 400 10 (L, k, q) = true) : bm_Goal p l e s m below meth c b := bm_law l C0 (n := 400) (d := 10) (G := (L, k, q)) (by decide) rfl (bm_okO h hk) hc
theorem bm_op0 (C0 : lw_At p s m meth c b 6 xs) (hk : xs 0 &&& 63 = 0) : bm_Goal p l e s m below meth c b := by
  have r0 := bm_rng (xs 0)
  have r1 := bm_rng (xs 1)
  have r2 := bm_rng (xs 2)
  have r3 := bm_rng (xs 3)
  have r4 := bm_rng (xs 4)
  exact bm_leaf C0 hk (show bm_okl xs 0 [] from trivial) bm_c0_0
theorem bm_op1 (C0 : lw_At p s m meth c b 6 xs) (hk : xs 0 &&& 63 = 1) : bm_Goal p l e s m below meth c b := by
  have r0 := bm_rng (xs 0)
  have r1 := bm_rng (xs 1)
  have r2 := bm_rng (xs 2)
  have r3 := bm_rng (xs 3)
  have r4 := bm_rng (xs 4)
  rcases (show (xs 1).toInt ≤ -1 ∨ (xs 1).toInt = 0 ∨ 1 ≤ (xs 1).toInt by omega) with q1_1 | q1_1 | q1_1
  · skip
    exact bm_leaf C0 hk (show bm_okl xs 0 [(-2147483648, 2147483647), (-2147483648, -1)] from ⟨(show -2147483648 ≤ (xs 0).toInt ∧ (xs 0).toInt ≤ 2147483647 from ⟨by omega, by omega⟩), ⟨(show -2147483648 ≤ (xs 1).toInt ∧ (xs 1).toInt ≤ -1 from ⟨by omega, by omega⟩), trivial⟩⟩) bm_c1_0
  · skip
    exact bm_leaf C0 hk (show bm_okl xs 0 [(-2147483648, 2147483647), (0, 0)] from ⟨(show -2147483648 ≤ (xs 0).toInt ∧ (xs 0).toInt ≤ 2147483647 from ⟨by omega, by omega⟩), ⟨(show 0 ≤ (xs 1).toInt ∧ (xs 1).toInt ≤ 0 from ⟨by omega, by omega⟩), trivial⟩⟩) bm_c1_1
  · skip
    exact bm_leaf C0 hk (show bm_okl xs 0 [(-2147483648, 2147483647), (1, 2147483647)] from ⟨(show -2147483648 ≤ (xs 0).toInt ∧ (xs 0).toInt ≤ 2147483647 from ⟨by omega, by omega⟩), ⟨(show 1 ≤ (xs 1).toInt ∧ (xs 1).toInt ≤ 2147483647 from ⟨by omega, by omega⟩), trivial⟩⟩) bm_c1_2
theorem bm_op2 (C0 : lw_At p s m meth c b 6 xs) (hk : xs 0 &&& 63 = 2) : bm_Goal p l e s m below meth c b := by
  have r0 := bm_rng (xs 0)
  have r1 := bm_rng (xs 1)
  have r2 := bm_rng (xs 2)
  have r3 := bm_rng (xs 3)
  have r4 := bm_rng (xs 4)
  rcases (show (xs 1).toInt ≤ 0 ∨ (1 ≤ (xs 1).toInt ∧ (xs 1).toInt ≤ 9999) ∨ 10000 ≤ (xs 1).toInt by omega) with q1_1 | q1_1 | q1_1
  · skip
    exact bm_leaf C0 hk (show bm_okl xs 0 [(-2147483648, 2147483647), (-2147483648, 0)] from ⟨(show -2147483648 ≤ (xs 0).toInt ∧ (xs 0).toInt ≤ 2147483647 from ⟨by omega, by omega⟩), ⟨(show -2147483648 ≤ (xs 1).toInt ∧ (xs 1).toInt ≤ 0 from ⟨by omega, by omega⟩), trivial⟩⟩) bm_c2_0
  · skip
    exact bm_leaf C0 hk (show bm_okl xs 0 [(-2147483648, 2147483647), (1, 9999)] from ⟨(show -2147483648 ≤ (xs 0).toInt ∧ (xs 0).toInt ≤ 2147483647 from ⟨by omega, by omega⟩), ⟨(show 1 ≤ (xs 1).toInt ∧ (xs 1).toInt ≤ 9999 from ⟨by omega, by omega⟩), trivial⟩⟩) bm_c2_1
  · skip
    exact bm_leaf C0 hk (show bm_okl xs 0 [(-2147483648, 2147483647), (10000, 2147483647)] from ⟨(show -2147483648 ≤ (xs 0).toInt ∧ (xs 0).toInt ≤ 2147483647 from ⟨by omega, by omega⟩), ⟨(show 10000 ≤ (xs 1).toInt ∧ (xs 1).toInt ≤ 2147483647 from ⟨by omega, by omega⟩), trivial⟩⟩) bm_c2_2
theorem bm_op3 (C0 : lw_At p s m meth c b 6 xs) (hk : xs 0 &&& 63 = 3) : bm_Goal p l e s m below meth c b := by
  have r0 := bm_rng (xs 0)
  have r1 := bm_rng (xs 1)
  have r2 := bm_rng (xs 2)
  have r3 := bm_rng (xs 3)
  have r4 := bm_rng (xs 4)
  exact bm_leaf C0 hk (show bm_okl xs 0 [] from trivial) bm_c3_0
theorem bm_op4 (C0 : lw_At p s m meth c b 6 xs) (hk : xs 0 &&& 63 = 4) : bm_Goal p l e s m below meth c b := by
  have r0 := bm_rng (xs 0)
  have r1 := bm_rng (xs 1)
  have r2 := bm_rng (xs 2)
  have r3 := bm_rng (xs 3)
  have r4 := bm_rng (xs 4)
  rcases (show (xs 1).toInt ≤ -1 ∨ (xs 1).toInt = 0 ∨ (xs 1).toInt = 1 ∨ 2 ≤ (xs 1).toInt by omega) with q1_1 | q1_1 | q1_1 | q1_1
  · skip
    exact bm_leaf C0 hk (show bm_okl xs 0 [(-2147483648, 2147483647), (-2147483648, -1)] from ⟨(show -2147483648 ≤ (xs 0).toInt ∧ (xs 0).toInt ≤ 2147483647 from ⟨by omega, by omega⟩), ⟨(show -2147483648 ≤ (xs 1).toInt ∧ (xs 1).toInt ≤ -1 from ⟨by omega, by omega⟩), trivial⟩⟩) bm_c4_0
  · skip
    exact bm_leaf C0 hk (show bm_okl xs 0 [(-2147483648, 2147483647), (0, 0)] from ⟨(show -2147483648 ≤ (xs 0).toInt ∧ (xs 0).toInt ≤ 2147483647 from ⟨by omega, by omega⟩), ⟨(show 0 ≤ (xs 1).toInt ∧ (xs 1).toInt ≤ 0 from ⟨by omega, by omega⟩), trivial⟩⟩) bm_c4_1
  · skip
    exact bm_leaf C0 hk (show bm_okl xs 0 [(-2147483648, 2147483647), (1, 1)] from ⟨(show -2147483648 ≤ (xs 0).toInt ∧ (xs 0).toInt ≤ 2147483647 from ⟨by omega, by omega⟩), ⟨(show 1 ≤ (xs 1).toInt ∧ (xs 1).toInt ≤ 1 from ⟨by omega, by omega⟩), trivial⟩⟩) bm_c4_2
  · skip
    exact bm_leaf C0 hk (show bm_okl xs 0 [(-2147483648, 2147483647), (2, 2147483647)] from ⟨(show -2147483648 ≤ (xs 0).toInt ∧ (xs 0).toInt ≤ 2147483647 from ⟨by omega, by omega⟩), ⟨(show 2 ≤ (xs 1).toInt ∧ (xs 1).toInt ≤ 2147483647 from ⟨by omega, by omega⟩), trivial⟩⟩) bm_c4_3
theorem bm_op5 (C0 : lw_At p s m meth c b 6 xs) (hk : xs 0 &&& 63 = 5) : bm_Goal p l e s m below meth c b := by
  have r0 := bm_rng (xs 0)
  have r1 := bm_rng (xs 1)
  have r2 := bm_rng (xs 2)
  have r3 := bm_rng (xs 3)
  have r4 := bm_rng (xs 4)
  rcases (show (xs 1).toInt ≤ -1 ∨ (xs 1).toInt = 0 ∨ (xs 1).toInt = 1 ∨ (xs 1).toInt = 2 ∨ (xs 1).toInt = 3 ∨ (xs 1).toInt = 4 ∨ (xs 1).toInt = 5 ∨ (xs 1).toInt = 6 ∨ (xs 1).toInt = 7 ∨ (xs 1).toInt = 8 ∨ (xs 1).toInt = 9 ∨ (xs 1).toInt = 10 ∨ (xs 1).toInt = 11 ∨ (xs 1).toInt = 12 ∨ (xs 1).toInt = 13 ∨ (xs 1).toInt = 14 ∨ (xs 1).toInt = 15 ∨ 16 ≤ (xs 1).toInt by omega) with q1_1 | q1_1 | q1_1 | q1_1 | q1_1 | q1_1 | q1_1 | q1_1 | q1_1 | q1_1 | q1_1 | q1_1 | q1_1 | q1_1 | q1_1 | q1_1 | q1_1 | q1_1
  · skip
    exact bm_leaf C0 hk (show bm_okl xs 0 [(-2147483648, 2147483647), (-2147483648, -1)] from ⟨(show -2147483648 ≤ (xs 0).toInt ∧ (xs 0).toInt ≤ 2147483647 from ⟨by omega, by omega⟩), ⟨(show -2147483648 ≤ (xs 1).toInt ∧ (xs 1).toInt ≤ -1 from ⟨by omega, by omega⟩), trivial⟩⟩) bm_c5_0
  · skip
    exact bm_leaf C0 hk (show bm_okl xs 0 [(-2147483648, 2147483647), (0, 0)] from ⟨(show -2147483648 ≤ (xs 0).toInt ∧ (xs 0).toInt ≤ 2147483647 from ⟨by omega, by omega⟩), ⟨(show 0 ≤ (xs 1).toInt ∧ (xs 1).toInt ≤ 0 from ⟨by omega, by omega⟩), trivial⟩⟩) bm_c5_1
  · skip
    exact bm_leaf C0 hk (show bm_okl xs 0 [(-2147483648, 2147483647), (1, 1)] from ⟨(show -2147483648 ≤ (xs 0).toInt ∧ (xs 0).toInt ≤ 2147483647 from ⟨by omega, by omega⟩), ⟨(show 1 ≤ (xs 1).toInt ∧ (xs 1).toInt ≤ 1 from ⟨by omega, by omega⟩), trivial⟩⟩) bm_c5_2
  · skip
    exact bm_leaf C0 hk (show bm_okl xs 0 [(-2147483648, 2147483647), (2, 2)] from ⟨(show -2147483648 ≤ (xs 0).toInt ∧ (xs 0).toInt ≤ 2147483647 from ⟨by omega, by omega⟩), ⟨(show 2 ≤ (xs 1).toInt ∧ (xs 1).toInt ≤ 2 from ⟨by omega, by omega⟩), trivial⟩⟩) bm_c5_3
  · skip
    exact bm_leaf C0 hk (show bm_okl xs 0 [(-2147483648, 2147483647), (3, 3)] from ⟨(show -2147483648 ≤ (xs 0).toInt ∧ (xs 0).toInt ≤ 2147483647 from ⟨by omega, by omega⟩), ⟨(show 3 ≤ (xs 1).toInt ∧ (xs 1).toInt ≤ 3 from ⟨by omega, by omega⟩), trivial⟩⟩) bm_c5_4
  · skip
    exact bm_leaf C0 hk (show bm_okl xs 0 [(-2147483648, 2147483647), (4, 4)] from ⟨(show -2147483648 ≤ (xs 0).toInt ∧ (xs 0).toInt ≤ 2147483647 from ⟨by omega, by omega⟩), ⟨(show 4 ≤ (xs 1).toInt ∧ (xs 1).toInt ≤ 4 from ⟨by omega, by omega⟩), trivial⟩⟩) bm_c5_5
  · skip
    exact bm_leaf C0 hk (show bm_okl xs 0 [(-2147483648, 2147483647), (5, 5)] from ⟨(show -2147483648 ≤ (xs 0).toInt ∧ (xs 0).toInt ≤ 2147483647 from ⟨by omega, by omega⟩), ⟨(show 5 ≤ (xs 1).toInt ∧ (xs 1).toInt ≤ 5 from ⟨by omega, by omega⟩), trivial⟩⟩) bm_c5_6
  · skip
    exact bm_leaf C0 hk (show bm_okl xs 0 [(-2147483648, 2147483647), (6, 6)] from ⟨(show -2147483648 ≤ (xs 0).toInt ∧ (xs 0).toInt ≤ 2147483647 from ⟨by omega, by omega⟩), ⟨(show 6 ≤ (xs 1).toInt ∧ (xs 1).toInt ≤ 6 from ⟨by omega, by omega⟩), trivial⟩⟩) bm_c5_7
  · skip
    exact bm_leaf C0 hk (show bm_okl xs 0 [(-2147483648, 2147483647), (7, 7)] from ⟨(show -2147483648 ≤ (xs 0).toInt ∧ (xs 0).toInt ≤ 2147483647 from ⟨by omega, by omega⟩), ⟨(show 7 ≤ (xs 1).toInt ∧ (xs 1).toInt ≤ 7 from ⟨by omega, by omega⟩), trivial⟩⟩) bm_c5_8
  · skip
    exact bm_leaf C0 hk (show bm_okl xs 0 [(-2147483648, 2147483647), (8, 8)] from ⟨(show -2147483648 ≤ (xs 0).toInt ∧ (xs 0).toInt ≤ 2147483647 from ⟨by omega, by omega⟩), ⟨(show 8 ≤ (xs 1).toInt ∧ (xs 1).toInt ≤ 8 from ⟨by omega, by omega⟩), trivial⟩⟩) bm_c5_9
  · skip
    exact bm_leaf C0 hk (show bm_okl xs 0 [(-2147483648, 2147483647), (9, 9)] from ⟨(show -2147483648 ≤ (xs 0).toInt ∧ (xs 0).toInt ≤ 2147483647 from ⟨by omega, by omega⟩), ⟨(show 9 ≤ (xs 1).toInt ∧ (xs 1).toInt ≤ 9 from ⟨by omega, by omega⟩), trivial⟩⟩) bm_c5_10
  · skip
    exact bm_leaf C0 hk (show bm_okl xs 0 [(-2147483648, 2147483647), (10, 10)] from ⟨(show -2147483648 ≤ (xs 0).toInt ∧ (xs 0).toInt ≤ 2147483647 from ⟨by omega, by omega⟩), ⟨(show 10 ≤ (xs 1).toInt ∧ (xs 1).toInt ≤ 10 from ⟨by omega, by omega⟩), trivial⟩⟩) bm_c5_11
  · skip
    exact bm_leaf C0 hk (show bm_okl xs 0 [(-2147483648, 2147483647), (11, 11)] from ⟨(show -2147483648 ≤ (xs 0).toInt ∧ (xs 0).toInt ≤ 2147483647 from ⟨by omega, by omega⟩), ⟨(show 11 ≤ (xs 1).toInt ∧ (xs 1).toInt ≤ 11 from ⟨by omega, by omega⟩), trivial⟩⟩) bm_c5_12
  · skip
    exact bm_leaf C0 hk (show bm_okl xs 0 [(-2147483648, 2147483647), (12, 12)] from ⟨(show -2147483648 ≤ (xs 0).toInt ∧ (xs 0).toInt ≤ 2147483647 from ⟨by omega, by omega⟩), ⟨(show 12 ≤ (xs 1).toInt ∧ (xs 1).toInt ≤ 12 from ⟨by omega, by omega⟩), trivial⟩⟩) bm_c5_13
  · skip
    exact bm_leaf C0 hk (show bm_okl xs 0 [(-2147483648, 2147483647), (13, 13)] from ⟨(show -2147483648 ≤ (xs 0).toInt ∧ (xs 0).toInt ≤ 2147483647 from ⟨by omega, by omega⟩), ⟨(show 13 ≤ (xs 1).toInt ∧ (xs 1).toInt ≤ 13 from ⟨by omega, by omega⟩), trivial⟩⟩) bm_c5_14
  · skip
    exact bm_leaf C0 hk (show bm_okl xs 0 [(-2147483648, 2147483647), (14, 14)] from ⟨(show -2147483648 ≤ (xs 0).toInt ∧ (xs 0).toInt ≤ 2147483647 from ⟨by omega, by omega⟩), ⟨(show 14 ≤ (xs 1).toInt ∧ (xs 1).toInt ≤ 14 from ⟨by omega, by omega⟩), trivial⟩⟩) bm_c5_15
  · skip
    exact bm_leaf C0 hk (show bm_okl xs 0 [(-2147483648, 2147483647), (15, 15)] from ⟨(show -2147483648 ≤ (xs 0).toInt ∧ (xs 0).toInt ≤ 2147483647 from ⟨by omega, by omega⟩), ⟨(show 15 ≤ (xs 1).toInt ∧ (xs 1).toInt ≤ 15 from ⟨by omega, by omega⟩), trivial⟩⟩) bm_c5_16
  · skip
    exact bm_leaf C0 hk (show bm_okl xs 0 [(-2147483648, 2147483647), (16, 2147483647)] from ⟨(show -2147483648 ≤ (xs 0).toInt ∧ (xs 0).toInt ≤ 2147483647 from ⟨by omega, by omega⟩), ⟨(show 16 ≤ (xs 1).toInt ∧ (xs 1).toInt ≤ 2147483647 from ⟨by omega, by omega⟩), trivial⟩⟩) bm_c5_17
theorem bm_op6 (C0 : lw_At p s m meth c b 6 xs) (hk : xs 0 &&& 63 = 6) : bm_Goal p l e s m below meth c b := by
  have r0 := bm_rng (xs 0)
  have r1 := bm_rng (xs 1)
  have r2 := bm_rng (xs 2)
  have r3 := bm_rng (xs 3)
  have r4 := bm_rng (xs 4)
  rcases (show (xs 1).toInt ≤ -1 ∨ (0 ≤ (xs 1).toInt ∧ (xs 1).toInt ≤ 19) ∨ 20 ≤ (xs 1).toInt by omega) with q1_1 | q1_1 | q1_1
  · skip
    exact bm_leaf C0 hk (show bm_okl xs 0 [(-2147483648, 2147483647), (-2147483648, -1)] from ⟨(show -2147483648 ≤ (xs 0).toInt ∧ (xs 0).toInt ≤ 2147483647 from ⟨by omega, by omega⟩), ⟨(show -2147483648 ≤ (xs 1).toInt ∧ (xs 1).toInt ≤ -1 from ⟨by omega, by omega⟩), trivial⟩⟩) bm_c6_0
  · skip
    rcases (show (xs 2).toInt ≤ -1 ∨ (0 ≤ (xs 2).toInt ∧ (xs 2).toInt ≤ 2100) ∨ 2101 ≤ (xs 2).toInt by omega) with q2_2 | q2_2 | q2_2
    · skip
      exact bm_leaf C0 hk (show bm_okl xs 0 [(-2147483648, 2147483647), (0, 19), (-2147483648, -1)] from ⟨(show -2147483648 ≤ (xs 0).toInt ∧ (xs 0).toInt ≤ 2147483647 from ⟨by omega, by omega⟩), ⟨(show 0 ≤ (xs 1).toInt ∧ (xs 1).toInt ≤ 19 from ⟨by omega, by omega⟩), ⟨(show -2147483648 ≤ (xs 2).toInt ∧ (xs 2).toInt ≤ -1 from ⟨by omega, by omega⟩), trivial⟩⟩⟩) bm_c6_1
    · skip
      rcases (show (xs 3).toInt ≤ -1 ∨ (0 ≤ (xs 3).toInt ∧ (xs 3).toInt ≤ 19) ∨ 20 ≤ (xs 3).toInt by omega) with q3_3 | q3_3 | q3_3
      · skip
        exact bm_leaf C0 hk (show bm_okl xs 0 [(-2147483648, 2147483647), (0, 19), (0, 2100), (-2147483648, -1)] from ⟨(show -2147483648 ≤ (xs 0).toInt ∧ (xs 0).toInt ≤ 2147483647 from ⟨by omega, by omega⟩), ⟨(show 0 ≤ (xs 1).toInt ∧ (xs 1).toInt ≤ 19 from ⟨by omega, by omega⟩), ⟨(show 0 ≤ (xs 2).toInt ∧ (xs 2).toInt ≤ 2100 from ⟨by omega, by omega⟩), ⟨(show -2147483648 ≤ (xs 3).toInt ∧ (xs 3).toInt ≤ -1 from ⟨by omega, by omega⟩), trivial⟩⟩⟩⟩) bm_c6_2
      · skip
        rcases (show (xs 4).toInt ≤ -1 ∨ (0 ≤ (xs 4).toInt ∧ (xs 4).toInt ≤ 99) ∨ 100 ≤ (xs 4).toInt by omega) with q4_4 | q4_4 | q4_4
        · skip
          exact bm_leaf C0 hk (show bm_okl xs 0 [(-2147483648, 2147483647), (0, 19), (0, 2100), (0, 19), (-2147483648, -1)] from ⟨(show -2147483648 ≤ (xs 0).toInt ∧ (xs 0).toInt ≤ 2147483647 from ⟨by omega, by omega⟩), ⟨(show 0 ≤ (xs 1).toInt ∧ (xs 1).toInt ≤ 19 from ⟨by omega, by omega⟩), ⟨(show 0 ≤ (xs 2).toInt ∧ (xs 2).toInt ≤ 2100 from ⟨by omega, by omega⟩), ⟨(show 0 ≤ (xs 3).toInt ∧ (xs 3).toInt ≤ 19 from ⟨by omega, by omega⟩), ⟨(show -2147483648 ≤ (xs 4).toInt ∧ (xs 4).toInt ≤ -1 from ⟨by omega, by omega⟩), trivial⟩⟩⟩⟩⟩) bm_c6_3
        · skip
          exact bm_leaf C0 hk (show bm_okl xs 0 [(-2147483648, 2147483647), (0, 19), (0, 2100), (0, 19), (0, 99)] from ⟨(show -2147483648 ≤ (xs 0).toInt ∧ (xs 0).toInt ≤ 2147483647 from ⟨by omega, by omega⟩), ⟨(show 0 ≤ (xs 1).toInt ∧ (xs 1).toInt ≤ 19 from ⟨by omega, by omega⟩), ⟨(show 0 ≤ (xs 2).toInt ∧ (xs 2).toInt ≤ 2100 from ⟨by omega, by omega⟩), ⟨(show 0 ≤ (xs 3).toInt ∧ (xs 3).toInt ≤ 19 from ⟨by omega, by omega⟩), ⟨(show 0 ≤ (xs 4).toInt ∧ (xs 4).toInt ≤ 99 from ⟨by omega, by omega⟩), trivial⟩⟩⟩⟩⟩) bm_c6_4
        · skip
          exact bm_leaf C0 hk (show bm_okl xs 0 [(-2147483648, 2147483647), (0, 19), (0, 2100), (0, 19), (100, 2147483647)] from ⟨(show -2147483648 ≤ (xs 0).toInt ∧ (xs 0).toInt ≤ 2147483647 from ⟨by omega, by omega⟩), ⟨(show 0 ≤ (xs 1).toInt ∧ (xs 1).toInt ≤ 19 from ⟨by omega, by omega⟩), ⟨(show 0 ≤ (xs 2).toInt ∧ (xs 2).toInt ≤ 2100 from ⟨by omega, by omega⟩), ⟨(show 0 ≤ (xs 3).toInt ∧ (xs 3).toInt ≤ 19 from ⟨by omega, by omega⟩), ⟨(show 100 ≤ (xs 4).toInt ∧ (xs 4).toInt ≤ 2147483647 from ⟨by omega, by omega⟩), trivial⟩⟩⟩⟩⟩) bm_c6_5
      · skip
        exact bm_leaf C0 hk (show bm_okl xs 0 [(-2147483648, 2147483647), (0, 19), (0, 2100), (20, 2147483647)] from ⟨(show -2147483648 ≤ (xs 0).toInt ∧ (xs 0).toInt ≤ 2147483647 from ⟨by omega, by omega⟩), ⟨(show 0 ≤ (xs 1).toInt ∧ (xs 1).toInt ≤ 19 from ⟨by omega, by omega⟩), ⟨(show 0 ≤ (xs 2).toInt ∧ (xs 2).toInt ≤ 2100 from ⟨by omega, by omega⟩), ⟨(show 20 ≤ (xs 3).toInt ∧ (xs 3).toInt ≤ 2147483647 from ⟨by omega, by omega⟩), trivial⟩⟩⟩⟩) bm_c6_6
    · skip
      exact bm_leaf C0 hk (show bm_okl xs 0 [(-2147483648, 2147483647), (0, 19), (2101, 2147483647)] from ⟨(show -2147483648 ≤ (xs 0).toInt ∧ (xs 0).toInt ≤ 2147483647 from ⟨by omega, by omega⟩), ⟨(show 0 ≤ (xs 1).toInt ∧ (xs 1).toInt ≤ 19 from ⟨by omega, by omega⟩), ⟨(show 2101 ≤ (xs 2).toInt ∧ (xs 2).toInt ≤ 2147483647 from ⟨by omega, by omega⟩), trivial⟩⟩⟩) bm_c6_7
  · skip
    exact bm_leaf C0 hk (show bm_okl xs 0 [(-2147483648, 2147483647), (20, 2147483647)] from ⟨(show -2147483648 ≤ (xs 0).toInt ∧ (xs 0).toInt ≤ 2147483647 from ⟨by omega, by omega⟩), ⟨(show 20 ≤ (xs 1).toInt ∧ (xs 1).toInt ≤ 2147483647 from ⟨by omega, by omega⟩), trivial⟩⟩) bm_c6_8
theorem bm_op7 (C0 : lw_At p s m meth c b 6 xs) (hk : xs 0 &&& 63 = 7) : bm_Goal p l e s m below meth c b := by
  have r0 := bm_rng (xs 0)
  have r1 := bm_rng (xs 1)
  have r2 := bm_rng (xs 2)
  have r3 := bm_rng (xs 3)
  have r4 := bm_rng (xs 4)
  rcases (show (xs 1).toInt ≤ -1 ∨ 0 ≤ (xs 1).toInt by omega) with q1_1 | q1_1
  · skip
    exact bm_leaf C0 hk (show bm_okl xs 0 [(-2147483648, 2147483647), (-2147483648, -1)] from ⟨(show -2147483648 ≤ (xs 0).toInt ∧ (xs 0).toInt ≤ 2147483647 from ⟨by omega, by omega⟩), ⟨(show -2147483648 ≤ (xs 1).toInt ∧ (xs 1).toInt ≤ -1 from ⟨by omega, by omega⟩), trivial⟩⟩) bm_c7_0
  · skip
    exact bm_leaf C0 hk (show bm_okl xs 0 [(-2147483648, 2147483647), (0, 2147483647)] from ⟨(show -2147483648 ≤ (xs 0).toInt ∧ (xs 0).toInt ≤ 2147483647 from ⟨by omega, by omega⟩), ⟨(show 0 ≤ (xs 1).toInt ∧ (xs 1).toInt ≤ 2147483647 from ⟨by omega, by omega⟩), trivial⟩⟩) bm_c7_1
theorem bm_op8 (C0 : lw_At p s m meth c b 6 xs) (hk : xs 0 &&& 63 = 8) : bm_Goal p l e s m below meth c b := by
  have r0 := bm_rng (xs 0)
  have r1 := bm_rng (xs 1)
  have r2 := bm_rng (xs 2)
  have r3 := bm_rng (xs 3)
  have r4 := bm_rng (xs 4)
  rcases (show (xs 1).toInt ≤ -1 ∨ 0 ≤ (xs 1).toInt by omega) with q1_1 | q1_1
  · skip
    exact bm_leaf C0 hk (show bm_okl xs 0 [(-2147483648, 2147483647), (-2147483648, -1)] from ⟨(show -2147483648 ≤ (xs 0).toInt ∧ (xs 0).toInt ≤ 2147483647 from ⟨by omega, by omega⟩), ⟨(show -2147483648 ≤ (xs 1).toInt ∧ (xs 1).toInt ≤ -1 from ⟨by omega, by omega⟩), trivial⟩⟩) bm_c8_0
  · skip
    exact bm_leaf C0 hk (show bm_okl xs 0 [(-2147483648, 2147483647), (0, 2147483647)] from ⟨(show -2147483648 ≤ (xs 0).toInt ∧ (xs 0).toInt ≤ 2147483647 from ⟨by omega, by omega⟩), ⟨(show 0 ≤ (xs 1).toInt ∧ (xs 1).toInt ≤ 2147483647 from ⟨by omega, by omega⟩), trivial⟩⟩) bm_c8_1
theorem bm_op9 (C0 : lw_At p s m meth c b 6 xs) (hk : xs 0 &&& 63 = 9) : bm_Goal p l e s m below meth c b := by
  have r0 := bm_rng (xs 0)
  have r1 := bm_rng (xs 1)
  have r2 := bm_rng (xs 2)
  have r3 := bm_rng (xs 3)
  have r4 := bm_rng (xs 4)
  rcases (show (xs 1).toInt ≤ -1 ∨ 0 ≤ (xs 1).toInt by omega) with q1_1 | q1_1
  · skip
    exact bm_leaf C0 hk (show bm_okl xs 0 [(-2147483648, 2147483647), (-2147483648, -1)] from ⟨(show -2147483648 ≤ (xs 0).toInt ∧ (xs 0).toInt ≤ 2147483647 from ⟨by omega, by omega⟩), ⟨(show -2147483648 ≤ (xs 1).toInt ∧ (xs 1).toInt ≤ -1 from ⟨by omega, by omega⟩), trivial⟩⟩) bm_c9_0
  · skip
    exact bm_leaf C0 hk (show bm_okl xs 0 [(-2147483648, 2147483647), (0, 2147483647)] from ⟨(show -2147483648 ≤ (xs 0).toInt ∧ (xs 0).toInt ≤ 2147483647 from ⟨by omega, by omega⟩), ⟨(show 0 ≤ (xs 1).toInt ∧ (xs 1).toInt ≤ 2147483647 from ⟨by omega, by omega⟩), trivial⟩⟩) bm_c9_1
theorem bm_op10 (C0 : lw_At p s m meth c b 6 xs) (hk : xs 0 &&& 63 = 10) : bm_Goal p l e s m below meth c b := by
  have r0 := bm_rng (xs 0)
  have r1 := bm_rng (xs 1)
  have r2 := bm_rng (xs 2)
  have r3 := bm_rng (xs 3)
  have r4 := bm_rng (xs 4)
  rcases (show (xs 1).toInt ≤ -1 ∨ 0 ≤ (xs 1).toInt by omega) with q1_1 | q1_1
  · skip
    exact bm_leaf C0 hk (show bm_okl xs 0 [(-2147483648, 2147483647), (-2147483648, -1)] from ⟨(show -2147483648 ≤ (xs 0).toInt ∧ (xs 0).toInt ≤ 2147483647 from ⟨by omega, by omega⟩), ⟨(show -2147483648 ≤ (xs 1).toInt ∧ (xs 1).toInt ≤ -1 from ⟨by omega, by omega⟩), trivial⟩⟩) bm_c10_0
  · skip
    exact bm_leaf C0 hk (show bm_okl xs 0 [(-2147483648, 2147483647), (0, 2147483647)] from ⟨(show -2147483648 ≤ (xs 0).toInt ∧ (xs 0).toInt ≤ 2147483647 from ⟨by omega, by omega⟩), ⟨(show 0 ≤ (xs 1).toInt ∧ (xs 1).toInt ≤ 2147483647 from ⟨by omega, by omega⟩), trivial⟩⟩) bm_c10_1
theorem bm_op11 (C0 : lw_At p s m meth c b 6 xs) (hk : xs 0 &&& 63 = 11) : bm_Goal p l e s m below meth c b := by
  have r0 := bm_rng (xs 0)
  have r1 := bm_rng (xs 1)
  have r2 := bm_rng (xs 2)
  have r3 := bm_rng (xs 3)
  have r4 := bm_rng (xs 4)
  rcases (show (xs 1).toInt ≤ -1 ∨ 0 ≤ (xs 1).toInt by omega) with q1_1 | q1_1
  · skip
    exact bm_leaf C0 hk (show bm_okl xs 0 [(-2147483648, 2147483647), (-2147483648, -1)] from ⟨(show -2147483648 ≤ (xs 0).toInt ∧ (xs 0).toInt ≤ 2147483647 from ⟨by omega, by omega⟩), ⟨(show -2147483648 ≤ (xs 1).toInt ∧ (xs 1).toInt ≤ -1 from ⟨by omega, by omega⟩), trivial⟩⟩) bm_c11_0
  · skip
    exact bm_leaf C0 hk (show bm_okl xs 0 [(-2147483648, 2147483647), (0, 2147483647)] from ⟨(show -2147483648 ≤ (xs 0).toInt ∧ (xs 0).toInt ≤ 2147483647 from ⟨by omega, by omega⟩), ⟨(show 0 ≤ (xs 1).toInt ∧ (xs 1).toInt ≤ 2147483647 from ⟨by omega, by omega⟩), trivial⟩⟩) bm_c11_1
theorem bm_op12 (C0 : lw_At p s m meth c b 6 xs) (hk : xs 0 &&& 63 = 12) : bm_Goal p l e s m below meth c b := by
  have r0 := bm_rng (xs 0)
  have r1 := bm_rng (xs 1)
  have r2 := bm_rng (xs 2)
  have r3 := bm_rng (xs 3)
  have r4 := bm_rng (xs 4)
  rcases (show (xs 1).toInt ≤ -1 ∨ 0 ≤ (xs 1).toInt by omega) with q1_1 | q1_1
  · skip
    exact bm_leaf C0 hk (show bm_okl xs 0 [(-2147483648, 2147483647), (-2147483648, -1)] from ⟨(show -2147483648 ≤ (xs 0).toInt ∧ (xs 0).toInt ≤ 2147483647 from ⟨by omega, by omega⟩), ⟨(show -2147483648 ≤ (xs 1).toInt ∧ (xs 1).toInt ≤ -1 from ⟨by omega, by omega⟩), trivial⟩⟩) bm_c12_0
  · skip
    exact bm_leaf C0 hk (show bm_okl xs 0 [(-2147483648, 2147483647), (0, 2147483647)] from ⟨(show -2147483648 ≤ (xs 0).toInt ∧ (xs 0).toInt ≤ 2147483647 from ⟨by omega, by omega⟩), ⟨(show 0 ≤ (xs 1).toInt ∧ (xs 1).toInt ≤ 2147483647 from ⟨by omega, by omega⟩), trivial⟩⟩) bm_c12_1
theorem bm_op13 (C0 : lw_At p s m meth c b 6 xs) (hk : xs 0 &&& 63 = 13) : bm_Goal p l e s m below meth c b := by
  have r0 := bm_rng (xs 0)
  have r1 := bm_rng (xs 1)
  have r2 := bm_rng (xs 2)
  have r3 := bm_rng (xs 3)
  have r4 := bm_rng (xs 4)
  rcases (show (xs 1).toInt ≤ -1 ∨ 0 ≤ (xs 1).toInt by omega) with q1_1 | q1_1
  · skip
    exact bm_leaf C0 hk (show bm_okl xs 0 [(-2147483648, 2147483647), (-2147483648, -1)] from ⟨(show -2147483648 ≤ (xs 0).toInt ∧ (xs 0).toInt ≤ 2147483647 from ⟨by omega, by omega⟩), ⟨(show -2147483648 ≤ (xs 1).toInt ∧ (xs 1).toInt ≤ -1 from ⟨by omega, by omega⟩), trivial⟩⟩) bm_c13_0
  · skip
    exact bm_leaf C0 hk (show bm_okl xs 0 [(-2147483648, 2147483647), (0, 2147483647)] from ⟨(show -2147483648 ≤ (xs 0).toInt ∧ (xs 0).toInt ≤ 2147483647 from ⟨by omega, by omega⟩), ⟨(show 0 ≤ (xs 1).toInt ∧ (xs 1).toInt ≤ 2147483647 from ⟨by omega, by omega⟩), trivial⟩⟩) bm_c13_1
theorem bm_op14 (C0 : lw_At p s m meth c b 6 xs) (hk : xs 0 &&& 63 = 14) : bm_Goal p l e s m below meth c b := by
  have r0 := bm_rng (xs 0)
  have r1 := bm_rng (xs 1)
  have r2 := bm_rng (xs 2)
  have r3 := bm_rng (xs 3)
  have r4 := bm_rng (xs 4)
  rcases (show (xs 1).toInt ≤ -1 ∨ 0 ≤ (xs 1).toInt by omega) with q1_1 | q1_1
  · skip
    exact bm_leaf C0 hk (show bm_okl xs 0 [(-2147483648, 2147483647), (-2147483648, -1)] from ⟨(show -2147483648 ≤ (xs 0).toInt ∧ (xs 0).toInt ≤ 2147483647 from ⟨by omega, by omega⟩), ⟨(show -2147483648 ≤ (xs 1).toInt ∧ (xs 1).toInt ≤ -1 from ⟨by omega, by omega⟩), trivial⟩⟩) bm_c14_0
  · skip
    exact bm_leaf C0 hk (show bm_okl xs 0 [(-2147483648, 2147483647), (0, 2147483647)] from ⟨(show -2147483648 ≤ (xs 0).toInt ∧ (xs 0).toInt ≤ 2147483647 from ⟨by omega, by omega⟩), ⟨(show 0 ≤ (xs 1).toInt ∧ (xs 1).toInt ≤ 2147483647 from ⟨by omega, by omega⟩), trivial⟩⟩) bm_c14_1
theorem bm_op15 (C0 : lw_At p s m meth c b 6 xs) (hk : xs 0 &&& 63 = 15) : bm_Goal p l e s m below meth c b := by
  have r0 := bm_rng (xs 0)
  have r1 := bm_rng (xs 1)
  have r2 := bm_rng (xs 2)
  have r3 := bm_rng (xs 3)
  have r4 := bm_rng (xs 4)
  rcases (show (xs 1).toInt ≤ -1 ∨ 0 ≤ (xs 1).toInt by omega) with q1_1 | q1_1
  · skip
    exact bm_leaf C0 hk (show bm_okl xs 0 [(-2147483648, 2147483647), (-2147483648, -1)] from ⟨(show -2147483648 ≤ (xs 0).toInt ∧ (xs 0).toInt ≤ 2147483647 from ⟨by omega, by omega⟩), ⟨(show -2147483648 ≤ (xs 1).toInt ∧ (xs 1).toInt ≤ -1 from ⟨by omega, by omega⟩), trivial⟩⟩) bm_c15_0
  · skip
    exact bm_leaf C0 hk (show bm_okl xs 0 [(-2147483648, 2147483647), (0, 2147483647)] from ⟨(show -2147483648 ≤ (xs 0).toInt ∧ (xs 0).toInt ≤ 2147483647 from ⟨by omega, by omega⟩), ⟨(show 0 ≤ (xs 1).toInt ∧ (xs 1).toInt ≤ 2147483647 from ⟨by omega, by omega⟩), trivial⟩⟩) bm_c15_1
theorem bm_op16 (C0 : lw_At p s m meth c b 6 xs) (hk : xs 0 &&& 63 = 16) : bm_Goal p l e s m below meth c b := by
  have r0 := bm_rng (xs 0)
  have r1 := bm_rng (xs 1)
  have r2 := bm_rng (xs 2)
  have r3 := bm_rng (xs 3)
  have r4 := bm_rng (xs 4)
  rcases (show (xs 1).toInt ≤ -1 ∨ (0 ≤ (xs 1).toInt ∧ (xs 1).toInt ≤ 19) ∨ 20 ≤ (xs 1).toInt by omega) with q1_1 | q1_1 | q1_1
  · skip
    exact bm_leaf C0 hk (show bm_okl xs 0 [(-2147483648, 2147483647), (-2147483648, -1)] from ⟨(show -2147483648 ≤ (xs 0).toInt ∧ (xs 0).toInt ≤ 2147483647 from ⟨by omega, by omega⟩), ⟨(show -2147483648 ≤ (xs 1).toInt ∧ (xs 1).toInt ≤ -1 from ⟨by omega, by omega⟩), trivial⟩⟩) bm_c16_0
  · skip
    rcases (show (xs 2).toInt ≤ -1 ∨ (0 ≤ (xs 2).toInt ∧ (xs 2).toInt ≤ 29999) ∨ 30000 ≤ (xs 2).toInt by omega) with q2_2 | q2_2 | q2_2
    · skip
      exact bm_leaf C0 hk (show bm_okl xs 0 [(-2147483648, 2147483647), (0, 19), (-2147483648, -1)] from ⟨(show -2147483648 ≤ (xs 0).toInt ∧ (xs 0).toInt ≤ 2147483647 from ⟨by omega, by omega⟩), ⟨(show 0 ≤ (xs 1).toInt ∧ (xs 1).toInt ≤ 19 from ⟨by omega, by omega⟩), ⟨(show -2147483648 ≤ (xs 2).toInt ∧ (xs 2).toInt ≤ -1 from ⟨by omega, by omega⟩), trivial⟩⟩⟩) bm_c16_1
    · skip
      exact bm_leaf C0 hk (show bm_okl xs 0 [(-2147483648, 2147483647), (0, 19), (0, 29999)] from ⟨(show -2147483648 ≤ (xs 0).toInt ∧ (xs 0).toInt ≤ 2147483647 from ⟨by omega, by omega⟩), ⟨(show 0 ≤ (xs 1).toInt ∧ (xs 1).toInt ≤ 19 from ⟨by omega, by omega⟩), ⟨(show 0 ≤ (xs 2).toInt ∧ (xs 2).toInt ≤ 29999 from ⟨by omega, by omega⟩), trivial⟩⟩⟩) bm_c16_2
    · skip
      exact bm_leaf C0 hk (show bm_okl xs 0 [(-2147483648, 2147483647), (0, 19), (30000, 2147483647)] from ⟨(show -2147483648 ≤ (xs 0).toInt ∧ (xs 0).toInt ≤ 2147483647 from ⟨by omega, by omega⟩), ⟨(show 0 ≤ (xs 1).toInt ∧ (xs 1).toInt ≤ 19 from ⟨by omega, by omega⟩), ⟨(show 30000 ≤ (xs 2).toInt ∧ (xs 2).toInt ≤ 2147483647 from ⟨by omega, by omega⟩), trivial⟩⟩⟩) bm_c16_3
  · skip
    exact bm_leaf C0 hk (show bm_okl xs 0 [(-2147483648, 2147483647), (20, 2147483647)] from ⟨(show -2147483648 ≤ (xs 0).toInt ∧ (xs 0).toInt ≤ 2147483647 from ⟨by omega, by omega⟩), ⟨(show 20 ≤ (xs 1).toInt ∧ (xs 1).toInt ≤ 2147483647 from ⟨by omega, by omega⟩), trivial⟩⟩) bm_c16_4
theorem bm_op17 (C0 : lw_At p s m meth c b 6 xs) (hk : xs 0 &&& 63 = 17) : bm_Goal p l e s m below meth c b := by
  have r0 := bm_rng (xs 0)
  have r1 := bm_rng (xs 1)
  have r2 := bm_rng (xs 2)
  have r3 := bm_rng (xs 3)
  have r4 := bm_rng (xs 4)
  rcases (show (xs 1).toInt ≤ -1 ∨ 0 ≤ (xs 1).toInt by omega) with q1_1 | q1_1
  · skip
    exact bm_leaf C0 hk (show bm_okl xs 0 [(-2147483648, 2147483647), (-2147483648, -1)] from ⟨(show -2147483648 ≤ (xs 0).toInt ∧ (xs 0).toInt ≤ 2147483647 from ⟨by omega, by omega⟩), ⟨(show -2147483648 ≤ (xs 1).toInt ∧ (xs 1).toInt ≤ -1 from ⟨by omega, by omega⟩), trivial⟩⟩) bm_c17_0
  · skip
    exact bm_leaf C0 hk (show bm_okl xs 0 [(-2147483648, 2147483647), (0, 2147483647)] from ⟨(show -2147483648 ≤ (xs 0).toInt ∧ (xs 0).toInt ≤ 2147483647 from ⟨by omega, by omega⟩), ⟨(show 0 ≤ (xs 1).toInt ∧ (xs 1).toInt ≤ 2147483647 from ⟨by omega, by omega⟩), trivial⟩⟩) bm_c17_1
theorem bm_op18 (C0 : lw_At p s m meth c b 6 xs) (hk : xs 0 &&& 63 = 18) : bm_Goal p l e s m below meth c b := by
  have r0 := bm_rng (xs 0)
  have r1 := bm_rng (xs 1)
  have r2 := bm_rng (xs 2)
  have r3 := bm_rng (xs 3)
  have r4 := bm_rng (xs 4)
  rcases (show (xs 1).toInt ≤ -1 ∨ 0 ≤ (xs 1).toInt by omega) with q1_1 | q1_1
  · skip
    exact bm_leaf C0 hk (show bm_okl xs 0 [(-2147483648, 2147483647), (-2147483648, -1)] from ⟨(show -2147483648 ≤ (xs 0).toInt ∧ (xs 0).toInt ≤ 2147483647 from ⟨by omega, by omega⟩), ⟨(show -2147483648 ≤ (xs 1).toInt ∧ (xs 1).toInt ≤ -1 from ⟨by omega, by omega⟩), trivial⟩⟩) bm_c18_0
  · skip
    exact bm_leaf C0 hk (show bm_okl xs 0 [(-2147483648, 2147483647), (0, 2147483647)] from ⟨(show -2147483648 ≤ (xs 0).toInt ∧ (xs 0).toInt ≤ 2147483647 from ⟨by omega, by omega⟩), ⟨(show 0 ≤ (xs 1).toInt ∧ (xs 1).toInt ≤ 2147483647 from ⟨by omega, by omega⟩), trivial⟩⟩) bm_c18_1
theorem bm_op19 (C0 : lw_At p s m meth c b 6 xs) (hk : xs 0 &&& 63 = 19) : bm_Goal p l e s m below meth c b := by
  have r0 := bm_rng (xs 0)
  have r1 := bm_rng (xs 1)
  have r2 := bm_rng (xs 2)
  have r3 := bm_rng (xs 3)
  have r4 := bm_rng (xs 4)
  rcases (show (xs 1).toInt ≤ 0 ∨ (1 ≤ (xs 1).toInt ∧ (xs 1).toInt ≤ 63) ∨ 64 ≤ (xs 1).toInt by omega) with q1_1 | q1_1 | q1_1
  · skip
    exact bm_leaf C0 hk (show bm_okl xs 0 [(-2147483648, 2147483647), (-2147483648, 0)] from ⟨(show -2147483648 ≤ (xs 0).toInt ∧ (xs 0).toInt ≤ 2147483647 from ⟨by omega, by omega⟩), ⟨(show -2147483648 ≤ (xs 1).toInt ∧ (xs 1).toInt ≤ 0 from ⟨by omega, by omega⟩), trivial⟩⟩) bm_c19_0
  · skip
    rcases (show (xs 2).toInt ≤ -1 ∨ (0 ≤ (xs 2).toInt ∧ (xs 2).toInt ≤ 29999) ∨ 30000 ≤ (xs 2).toInt by omega) with q2_2 | q2_2 | q2_2
    · skip
      exact bm_leaf C0 hk (show bm_okl xs 0 [(-2147483648, 2147483647), (1, 63), (-2147483648, -1)] from ⟨(show -2147483648 ≤ (xs 0).toInt ∧ (xs 0).toInt ≤ 2147483647 from ⟨by omega, by omega⟩), ⟨(show 1 ≤ (xs 1).toInt ∧ (xs 1).toInt ≤ 63 from ⟨by omega, by omega⟩), ⟨(show -2147483648 ≤ (xs 2).toInt ∧ (xs 2).toInt ≤ -1 from ⟨by omega, by omega⟩), trivial⟩⟩⟩) bm_c19_1
    · skip
      exact bm_leaf C0 hk (show bm_okl xs 0 [(-2147483648, 2147483647), (1, 63), (0, 29999)] from ⟨(show -2147483648 ≤ (xs 0).toInt ∧ (xs 0).toInt ≤ 2147483647 from ⟨by omega, by omega⟩), ⟨(show 1 ≤ (xs 1).toInt ∧ (xs 1).toInt ≤ 63 from ⟨by omega, by omega⟩), ⟨(show 0 ≤ (xs 2).toInt ∧ (xs 2).toInt ≤ 29999 from ⟨by omega, by omega⟩), trivial⟩⟩⟩) bm_c19_2
    · skip
      exact bm_leaf C0 hk (show bm_okl xs 0 [(-2147483648, 2147483647), (1, 63), (30000, 2147483647)] from ⟨(show -2147483648 ≤ (xs 0).toInt ∧ (xs 0).toInt ≤ 2147483647 from ⟨by omega, by omega⟩), ⟨(show 1 ≤ (xs 1).toInt ∧ (xs 1).toInt ≤ 63 from ⟨by omega, by omega⟩), ⟨(show 30000 ≤ (xs 2).toInt ∧ (xs 2).toInt ≤ 2147483647 from ⟨by omega, by omega⟩), trivial⟩⟩⟩) bm_c19_3
  · skip
    exact bm_leaf C0 hk (show bm_okl xs 0 [(-2147483648, 2147483647), (64, 2147483647)] from ⟨(show -2147483648 ≤ (xs 0).toInt ∧ (xs 0).toInt ≤ 2147483647 from ⟨by omega, by omega⟩), ⟨(show 64 ≤ (xs 1).toInt ∧ (xs 1).toInt ≤ 2147483647 from ⟨by omega, by omega⟩), trivial⟩⟩) bm_c19_4
theorem bm_op20 (C0 : lw_At p s m meth c b 6 xs) (hk : xs 0 &&& 63 = 20) : bm_Goal p l e s m below meth c b := by
  have r0 := bm_rng (xs 0)
  have r1 := bm_rng (xs 1)
  have r2 := bm_rng (xs 2)
  have r3 := bm_rng (xs 3)
  have r4 := bm_rng (xs 4)
  rcases (show (xs 1).toInt ≤ -1 ∨ 0 ≤ (xs 1).toInt by omega) with q1_1 | q1_1
  · skip
    exact bm_leaf C0 hk (show bm_okl xs 0 [(-2147483648, 2147483647), (-2147483648, -1)] from ⟨(show -2147483648 ≤ (xs 0).toInt ∧ (xs 0).toInt ≤ 2147483647 from ⟨by omega, by omega⟩), ⟨(show -2147483648 ≤ (xs 1).toInt ∧ (xs 1).toInt ≤ -1 from ⟨by omega, by omega⟩), trivial⟩⟩) bm_c20_0
  · skip
    exact bm_leaf C0 hk (show bm_okl xs 0 [(-2147483648, 2147483647), (0, 2147483647)] from ⟨(show -2147483648 ≤ (xs 0).toInt ∧ (xs 0).toInt ≤ 2147483647 from ⟨by omega, by omega⟩), ⟨(show 0 ≤ (xs 1).toInt ∧ (xs 1).toInt ≤ 2147483647 from ⟨by omega, by omega⟩), trivial⟩⟩) bm_c20_1
theorem bm_op21 (C0 : lw_At p s m meth c b 6 xs) (hk : xs 0 &&& 63 = 21) : bm_Goal p l e s m below meth c b := by
  have r0 := bm_rng (xs 0)
  have r1 := bm_rng (xs 1)
  have r2 := bm_rng (xs 2)
  have r3 := bm_rng (xs 3)
  have r4 := bm_rng (xs 4)
  rcases (show (xs 1).toInt ≤ -1 ∨ 0 ≤ (xs 1).toInt by omega) with q1_1 | q1_1
  · skip
    exact bm_leaf C0 hk (show bm_okl xs 0 [(-2147483648, 2147483647), (-2147483648, -1)] from ⟨(show -2147483648 ≤ (xs 0).toInt ∧ (xs 0).toInt ≤ 2147483647 from ⟨by omega, by omega⟩), ⟨(show -2147483648 ≤ (xs 1).toInt ∧ (xs 1).toInt ≤ -1 from ⟨by omega, by omega⟩), trivial⟩⟩) bm_c21_0
  · skip
    exact bm_leaf C0 hk (show bm_okl xs 0 [(-2147483648, 2147483647), (0, 2147483647)] from ⟨(show -2147483648 ≤ (xs 0).toInt ∧ (xs 0).toInt ≤ 2147483647 from ⟨by omega, by omega⟩), ⟨(show 0 ≤ (xs 1).toInt ∧ (xs 1).toInt ≤ 2147483647 from ⟨by omega, by omega⟩), trivial⟩⟩) bm_c21_1
theorem bm_op22 (C0 : lw_At p s m meth c b 6 xs) (hk : xs 0 &&& 63 = 22) : bm_Goal p l e s m below meth c b := by
  have r0 := bm_rng (xs 0)
  have r1 := bm_rng (xs 1)
  have r2 := bm_rng (xs 2)
  have r3 := bm_rng (xs 3)
  have r4 := bm_rng (xs 4)
  exact bm_leaf C0 hk (show bm_okl xs 0 [] from trivial) bm_c22_0
theorem bm_op23 (C0 : lw_At p s m meth c b 6 xs) (hk : xs 0 &&& 63 = 23) : bm_Goal p l e s m below meth c b := by
  have r0 := bm_rng (xs 0)
  have r1 := bm_rng (xs 1)
  have r2 := bm_rng (xs 2)
  have r3 := bm_rng (xs 3)
  have r4 := bm_rng (xs 4)
  exact bm_leaf C0 hk (show bm_okl xs 0 [] from trivial) bm_c23_0
theorem bm_op24 (C0 : lw_At p s m meth c b 6 xs) (hk : xs 0 &&& 63 = 24) : bm_Goal p l e s m below meth c b := by
  have r0 := bm_rng (xs 0)
  have r1 := bm_rng (xs 1)
  have r2 := bm_rng (xs 2)
  have r3 := bm_rng (xs 3)
  have r4 := bm_rng (xs 4)
  rcases (show (xs 1).toInt ≤ -1 ∨ (xs 1).toInt = 0 ∨ 1 ≤ (xs 1).toInt by omega) with q1_1 | q1_1 | q1_1
  · skip
    exact bm_leaf C0 hk (show bm_okl xs 0 [(-2147483648, 2147483647), (-2147483648, -1)] from ⟨(show -2147483648 ≤ (xs 0).toInt ∧ (xs 0).toInt ≤ 2147483647 from ⟨by omega, by omega⟩), ⟨(show -2147483648 ≤ (xs 1).toInt ∧ (xs 1).toInt ≤ -1 from ⟨by omega, by omega⟩), trivial⟩⟩) bm_c24_0
  · skip
    exact bm_leaf C0 hk (show bm_okl xs 0 [(-2147483648, 2147483647), (0, 0)] from ⟨(show -2147483648 ≤ (xs 0).toInt ∧ (xs 0).toInt ≤ 2147483647 from ⟨by omega, by omega⟩), ⟨(show 0 ≤ (xs 1).toInt ∧ (xs 1).toInt ≤ 0 from ⟨by omega, by omega⟩), trivial⟩⟩) bm_c24_1
  · skip
    exact bm_leaf C0 hk (show bm_okl xs 0 [(-2147483648, 2147483647), (1, 2147483647)] from ⟨(show -2147483648 ≤ (xs 0).toInt ∧ (xs 0).toInt ≤ 2147483647 from ⟨by omega, by omega⟩), ⟨(show 1 ≤ (xs 1).toInt ∧ (xs 1).toInt ≤ 2147483647 from ⟨by omega, by omega⟩), trivial⟩⟩) bm_c24_2
theorem bm_op25 (C0 : lw_At p s m meth c b 6 xs) (hk : xs 0 &&& 63 = 25) : bm_Goal p l e s m below meth c b := by
  have r0 := bm_rng (xs 0)
  have r1 := bm_rng (xs 1)
  have r2 := bm_rng (xs 2)
  have r3 := bm_rng (xs 3)
  have r4 := bm_rng (xs 4)
  rcases (show (xs 1).toInt ≤ -1 ∨ (xs 1).toInt = 0 ∨ 1 ≤ (xs 1).toInt by omega) with q1_1 | q1_1 | q1_1
  · skip
    exact bm_leaf C0 hk (show bm_okl xs 0 [(-2147483648, 2147483647), (-2147483648, -1)] from ⟨(show -2147483648 ≤ (xs 0).toInt ∧ (xs 0).toInt ≤ 2147483647 from ⟨by omega, by omega⟩), ⟨(show -2147483648 ≤ (xs 1).toInt ∧ (xs 1).toInt ≤ -1 from ⟨by omega, by omega⟩), trivial⟩⟩) bm_c25_0
  · skip
    exact bm_leaf C0 hk (show bm_okl xs 0 [(-2147483648, 2147483647), (0, 0)] from ⟨(show -2147483648 ≤ (xs 0).toInt ∧ (xs 0).toInt ≤ 2147483647 from ⟨by omega, by omega⟩), ⟨(show 0 ≤ (xs 1).toInt ∧ (xs 1).toInt ≤ 0 from ⟨by omega, by omega⟩), trivial⟩⟩) bm_c25_1
  · skip
    exact bm_leaf C0 hk (show bm_okl xs 0 [(-2147483648, 2147483647), (1, 2147483647)] from ⟨(show -2147483648 ≤ (xs 0).toInt ∧ (xs 0).toInt ≤ 2147483647 from ⟨by omega, by omega⟩), ⟨(show 1 ≤ (xs 1).toInt ∧ (xs 1).toInt ≤ 2147483647 from ⟨by omega, by omega⟩), trivial⟩⟩) bm_c25_2
theorem bm_op26 (C0 : lw_At p s m meth c b 6 xs) (hk : xs 0 &&& 63 = 26) : bm_Goal p l e s m below meth c b := by
  have r0 := bm_rng (xs 0)
  have r1 := bm_rng (xs 1)
  have r2 := bm_rng (xs 2)
  have r3 := bm_rng (xs 3)
  have r4 := bm_rng (xs 4)
  exact bm_leaf C0 hk (show bm_okl xs 0 [] from trivial) bm_c26_0
theorem bm_op27 (C0 : lw_At p s m meth c b 6 xs) (hk : xs 0 &&& 63 = 27) : bm_Goal p l e s m below meth c b := by
  have r0 := bm_rng (xs 0)
  have r1 := bm_rng (xs 1)
  have r2 := bm_rng (xs 2)
  have r3 := bm_rng (xs 3)
  have r4 := bm_rng (xs 4)
  rcases (show (xs 1).toInt ≤ -1 ∨ 0 ≤ (xs 1).toInt by omega) with q1_1 | q1_1
  · skip
    exact bm_leaf C0 hk (show bm_okl xs 0 [(-2147483648, 2147483647), (-2147483648, -1)] from ⟨(show -2147483648 ≤ (xs 0).toInt ∧ (xs 0).toInt ≤ 2147483647 from ⟨by omega, by omega⟩), ⟨(show -2147483648 ≤ (xs 1).toInt ∧ (xs 1).toInt ≤ -1 from ⟨by omega, by omega⟩), trivial⟩⟩) bm_c27_0
  · skip
    exact bm_leaf C0 hk (show bm_okl xs 0 [(-2147483648, 2147483647), (0, 2147483647)] from ⟨(show -2147483648 ≤ (xs 0).toInt ∧ (xs 0).toInt ≤ 2147483647 from ⟨by omega, by omega⟩), ⟨(show 0 ≤ (xs 1).toInt ∧ (xs 1).toInt ≤ 2147483647 from ⟨by omega, by omega⟩), trivial⟩⟩) bm_c27_1
theorem bm_op28 (C0 : lw_At p s m meth c b 6 xs) (hk : xs 0 &&& 63 = 28) : bm_Goal p l e s m below meth c b := by
  have r0 := bm_rng (xs 0)
  have r1 := bm_rng (xs 1)
  have r2 := bm_rng (xs 2)
  have r3 := bm_rng (xs 3)
  have r4 := bm_rng (xs 4)
  rcases (show (xs 1).toInt ≤ -1 ∨ (xs 1).toInt = 0 ∨ (xs 1).toInt = 1 ∨ (xs 1).toInt = 2 ∨ (xs 1).toInt = 3 ∨ 4 ≤ (xs 1).toInt by omega) with q1_1 | q1_1 | q1_1 | q1_1 | q1_1 | q1_1
  · skip
    exact bm_leaf C0 hk (show bm_okl xs 0 [(-2147483648, 2147483647), (-2147483648, -1)] from ⟨(show -2147483648 ≤ (xs 0).toInt ∧ (xs 0).toInt ≤ 2147483647 from ⟨by omega, by omega⟩), ⟨(show -2147483648 ≤ (xs 1).toInt ∧ (xs 1).toInt ≤ -1 from ⟨by omega, by omega⟩), trivial⟩⟩) bm_c28_0
  · skip
    exact bm_leaf C0 hk (show bm_okl xs 0 [(-2147483648, 2147483647), (0, 0)] from ⟨(show -2147483648 ≤ (xs 0).toInt ∧ (xs 0).toInt ≤ 2147483647 from ⟨by omega, by omega⟩), ⟨(show 0 ≤ (xs 1).toInt ∧ (xs 1).toInt ≤ 0 from ⟨by omega, by omega⟩), trivial⟩⟩) bm_c28_1
  · skip
    exact bm_leaf C0 hk (show bm_okl xs 0 [(-2147483648, 2147483647), (1, 1)] from ⟨(show -2147483648 ≤ (xs 0).toInt ∧ (xs 0).toInt ≤ 2147483647 from ⟨by omega, by omega⟩), ⟨(show 1 ≤ (xs 1).toInt ∧ (xs 1).toInt ≤ 1 from ⟨by omega, by omega⟩), trivial⟩⟩) bm_c28_2
  · skip
    exact bm_leaf C0 hk (show bm_okl xs 0 [(-2147483648, 2147483647), (2, 2)] from ⟨(show -2147483648 ≤ (xs 0).toInt ∧ (xs 0).toInt ≤ 2147483647 from ⟨by omega, by omega⟩), ⟨(show 2 ≤ (xs 1).toInt ∧ (xs 1).toInt ≤ 2 from ⟨by omega, by omega⟩), trivial⟩⟩) bm_c28_3
  · skip
    exact bm_leaf C0 hk (show bm_okl xs 0 [(-2147483648, 2147483647), (3, 3)] from ⟨(show -2147483648 ≤ (xs 0).toInt ∧ (xs 0).toInt ≤ 2147483647 from ⟨by omega, by omega⟩), ⟨(show 3 ≤ (xs 1).toInt ∧ (xs 1).toInt ≤ 3 from ⟨by omega, by omega⟩), trivial⟩⟩) bm_c28_4
  · skip
    exact bm_leaf C0 hk (show bm_okl xs 0 [(-2147483648, 2147483647), (4, 2147483647)] from ⟨(show -2147483648 ≤ (xs 0).toInt ∧ (xs 0).toInt ≤ 2147483647 from ⟨by omega, by omega⟩), ⟨(show 4 ≤ (xs 1).toInt ∧ (xs 1).toInt ≤ 2147483647 from ⟨by omega, by omega⟩), trivial⟩⟩) bm_c28_5
theorem bm_op29 (C0 : lw_At p s m meth c b 6 xs) (hk : xs 0 &&& 63 = 29) : bm_Goal p l e s m below meth c b := by
  have r0 := bm_rng (xs 0)
  have r1 := bm_rng (xs 1)
  have r2 := bm_rng (xs 2)
  have r3 := bm_rng (xs 3)
  have r4 := bm_rng (xs 4)
  rcases (show (xs 1).toInt ≤ -1 ∨ 0 ≤ (xs 1).toInt by omega) with q1_1 | q1_1
  · skip
    exact bm_leaf C0 hk (show bm_okl xs 0 [(-2147483648, 2147483647), (-2147483648, -1)] from ⟨(show -2147483648 ≤ (xs 0).toInt ∧ (xs 0).toInt ≤ 2147483647 from ⟨by omega, by omega⟩), ⟨(show -2147483648 ≤ (xs 1).toInt ∧ (xs 1).toInt ≤ -1 from ⟨by omega, by omega⟩), trivial⟩⟩) bm_c29_0
  · skip
    exact bm_leaf C0 hk (show bm_okl xs 0 [(-2147483648, 2147483647), (0, 2147483647)] from ⟨(show -2147483648 ≤ (xs 0).toInt ∧ (xs 0).toInt ≤ 2147483647 from ⟨by omega, by omega⟩), ⟨(show 0 ≤ (xs 1).toInt ∧ (xs 1).toInt ≤ 2147483647 from ⟨by omega, by omega⟩), trivial⟩⟩) bm_c29_1
theorem bm_op30 (C0 : lw_At p s m meth c b 6 xs) (hk : xs 0 &&& 63 = 30) : bm_Goal p l e s m below meth c b := by
  have r0 := bm_rng (xs 0)
  have r1 := bm_rng (xs 1)
  have r2 := bm_rng (xs 2)
  have r3 := bm_rng (xs 3)
  have r4 := bm_rng (xs 4)
  rcases (show (xs 1).toInt ≤ -1 ∨ 0 ≤ (xs 1).toInt by omega) with q1_1 | q1_1
  · skip
    exact bm_leaf C0 hk (show bm_okl xs 0 [(-2147483648, 2147483647), (-2147483648, -1)] from ⟨(show -2147483648 ≤ (xs 0).toInt ∧ (xs 0).toInt ≤ 2147483647 from ⟨by omega, by omega⟩), ⟨(show -2147483648 ≤ (xs 1).toInt ∧ (xs 1).toInt ≤ -1 from ⟨by omega, by omega⟩), trivial⟩⟩) bm_c30_0
  · skip
    exact bm_leaf C0 hk (show bm_okl xs 0 [(-2147483648, 2147483647), (0, 2147483647)] from ⟨(show -2147483648 ≤ (xs 0).toInt ∧ (xs 0).toInt ≤ 2147483647 from ⟨by omega, by omega⟩), ⟨(show 0 ≤ (xs 1).toInt ∧ (xs 1).toInt ≤ 2147483647 from ⟨by omega, by omega⟩), trivial⟩⟩) bm_c30_1
theorem bm_op31 (C0 : lw_At p s m meth c b 6 xs) (hk : xs 0 &&& 63 = 31) : bm_Goal p l e s m below meth c b := by
  have r0 := bm_rng (xs 0)
  have r1 := bm_rng (xs 1)
  have r2 := bm_rng (xs 2)
  have r3 := bm_rng (xs 3)
  have r4 := bm_rng (xs 4)
  exact bm_leaf C0 hk (show bm_okl xs 0 [] from trivial) bm_c31_0
theorem bm_op32 (C0 : lw_At p s m meth c b 6 xs) (hk : xs 0 &&& 63 = 32) : bm_Goal p l e s m below meth c b := by
  have r0 := bm_rng (xs 0)
  have r1 := bm_rng (xs 1)
  have r2 := bm_rng (xs 2)
  have r3 := bm_rng (xs 3)
  have r4 := bm_rng (xs 4)
  rcases (show (xs 1).toInt ≤ -1 ∨ (0 ≤ (xs 1).toInt ∧ (xs 1).toInt ≤ 9999999) ∨ 10000000 ≤ (xs 1).toInt by omega) with q1_1 | q1_1 | q1_1
  · skip
    exact bm_leaf C0 hk (show bm_okl xs 0 [(-2147483648, 2147483647), (-2147483648, -1)] from ⟨(show -2147483648 ≤ (xs 0).toInt ∧ (xs 0).toInt ≤ 2147483647 from ⟨by omega, by omega⟩), ⟨(show -2147483648 ≤ (xs 1).toInt ∧ (xs 1).toInt ≤ -1 from ⟨by omega, by omega⟩), trivial⟩⟩) bm_c32_0
  · skip
    exact bm_leaf C0 hk (show bm_okl xs 0 [(-2147483648, 2147483647), (0, 9999999)] from ⟨(show -2147483648 ≤ (xs 0).toInt ∧ (xs 0).toInt ≤ 2147483647 from ⟨by omega, by omega⟩), ⟨(show 0 ≤ (xs 1).toInt ∧ (xs 1).toInt ≤ 9999999 from ⟨by omega, by omega⟩), trivial⟩⟩) bm_c32_1
  · skip
    exact bm_leaf C0 hk (show bm_okl xs 0 [(-2147483648, 2147483647), (10000000, 2147483647)] from ⟨(show -2147483648 ≤ (xs 0).toInt ∧ (xs 0).toInt ≤ 2147483647 from ⟨by omega, by omega⟩), ⟨(show 10000000 ≤ (xs 1).toInt ∧ (xs 1).toInt ≤ 2147483647 from ⟨by omega, by omega⟩), trivial⟩⟩) bm_c32_2
theorem bm_op33 (C0 : lw_At p s m meth c b 6 xs) (hk : xs 0 &&& 63 = 33) : bm_Goal p l e s m below meth c b := by
  have r0 := bm_rng (xs 0)
  have r1 := bm_rng (xs 1)
  have r2 := bm_rng (xs 2)
  have r3 := bm_rng (xs 3)
  have r4 := bm_rng (xs 4)
  rcases (show (xs 1).toInt ≤ -1 ∨ (xs 1).toInt = 0 ∨ (xs 1).toInt = 1 ∨ (xs 1).toInt = 2 ∨ (xs 1).toInt = 3 ∨ (xs 1).toInt = 4 ∨ (xs 1).toInt = 5 ∨ (xs 1).toInt = 6 ∨ (xs 1).toInt = 7 ∨ (xs 1).toInt = 8 ∨ (xs 1).toInt = 9 ∨ (xs 1).toInt = 10 ∨ (xs 1).toInt = 11 ∨ (xs 1).toInt = 12 ∨ (xs 1).toInt = 13 ∨ (xs 1).toInt = 14 ∨ (xs 1).toInt = 15 ∨ (xs 1).toInt = 16 ∨ (xs 1).toInt = 17 ∨ (xs 1).toInt = 18 ∨ (xs 1).toInt = 19 ∨ 20 ≤ (xs 1).toInt by omega) with q1_1 | q1_1 | q1_1 | q1_1 | q1_1 | q1_1 | q1_1 | q1_1 | q1_1 | q1_1 | q1_1 | q1_1 | q1_1 | q1_1 | q1_1 | q1_1 | q1_1 | q1_1 | q1_1 | q1_1 | q1_1 | q1_1
  · skip
    exact bm_leaf C0 hk (show bm_okl xs 0 [(-2147483648, 2147483647), (-2147483648, -1)] from ⟨(show -2147483648 ≤ (xs 0).toInt ∧ (xs 0).toInt ≤ 2147483647 from ⟨by omega, by omega⟩), ⟨(show -2147483648 ≤ (xs 1).toInt ∧ (xs 1).toInt ≤ -1 from ⟨by omega, by omega⟩), trivial⟩⟩) bm_c33_0
  · skip
    exact bm_leaf C0 hk (show bm_okl xs 0 [(-2147483648, 2147483647), (0, 0)] from ⟨(show -2147483648 ≤ (xs 0).toInt ∧ (xs 0).toInt ≤ 2147483647 from ⟨by omega, by omega⟩), ⟨(show 0 ≤ (xs 1).toInt ∧ (xs 1).toInt ≤ 0 from ⟨by omega, by omega⟩), trivial⟩⟩) bm_c33_1
  · skip
    exact bm_leaf C0 hk (show bm_okl xs 0 [(-2147483648, 2147483647), (1, 1)] from ⟨(show -2147483648 ≤ (xs 0).toInt ∧ (xs 0).toInt ≤ 2147483647 from ⟨by omega, by omega⟩), ⟨(show 1 ≤ (xs 1).toInt ∧ (xs 1).toInt ≤ 1 from ⟨by omega, by omega⟩), trivial⟩⟩) bm_c33_2
  · skip
    exact bm_leaf C0 hk (show bm_okl xs 0 [(-2147483648, 2147483647), (2, 2)] from ⟨(show -2147483648 ≤ (xs 0).toInt ∧ (xs 0).toInt ≤ 2147483647 from ⟨by omega, by omega⟩), ⟨(show 2 ≤ (xs 1).toInt ∧ (xs 1).toInt ≤ 2 from ⟨by omega, by omega⟩), trivial⟩⟩) bm_c33_3
  · skip
    exact bm_leaf C0 hk (show bm_okl xs 0 [(-2147483648, 2147483647), (3, 3)] from ⟨(show -2147483648 ≤ (xs 0).toInt ∧ (xs 0).toInt ≤ 2147483647 from ⟨by omega, by omega⟩), ⟨(show 3 ≤ (xs 1).toInt ∧ (xs 1).toInt ≤ 3 from ⟨by omega, by omega⟩), trivial⟩⟩) bm_c33_4
  · skip
    exact bm_leaf C0 hk (show bm_okl xs 0 [(-2147483648, 2147483647), (4, 4)] from ⟨(show -2147483648 ≤ (xs 0).toInt ∧ (xs 0).toInt ≤ 2147483647 from ⟨by omega, by omega⟩), ⟨(show 4 ≤ (xs 1).toInt ∧ (xs 1).toInt ≤ 4 from ⟨by omega, by omega⟩), trivial⟩⟩) bm_c33_5
  · skip
    exact bm_leaf C0 hk (show bm_okl xs 0 [(-2147483648, 2147483647), (5, 5)] from ⟨(show -2147483648 ≤ (xs 0).toInt ∧ (xs 0).toInt ≤ 2147483647 from ⟨by omega, by omega⟩), ⟨(show 5 ≤ (xs 1).toInt ∧ (xs 1).toInt ≤ 5 from ⟨by omega, by omega⟩), trivial⟩⟩) bm_c33_6
  · skip
    exact bm_leaf C0 hk (show bm_okl xs 0 [(-2147483648, 2147483647), (6, 6)] from ⟨(show -2147483648 ≤ (xs 0).toInt ∧ (xs 0).toInt ≤ 2147483647 from ⟨by omega, by omega⟩), ⟨(show 6 ≤ (xs 1).toInt ∧ (xs 1).toInt ≤ 6 from ⟨by omega, by omega⟩), trivial⟩⟩) bm_c33_7
  · skip
    exact bm_leaf C0 hk (show bm_okl xs 0 [(-2147483648, 2147483647), (7, 7)] from ⟨(show -2147483648 ≤ (xs 0).toInt ∧ (xs 0).toInt ≤ 2147483647 from ⟨by omega, by omega⟩), ⟨(show 7 ≤ (xs 1).toInt ∧ (xs 1).toInt ≤ 7 from ⟨by omega, by omega⟩), trivial⟩⟩) bm_c33_8
  · skip
    exact bm_leaf C0 hk (show bm_okl xs 0 [(-2147483648, 2147483647), (8, 8)] from ⟨(show -2147483648 ≤ (xs 0).toInt ∧ (xs 0).toInt ≤ 2147483647 from ⟨by omega, by omega⟩), ⟨(show 8 ≤ (xs 1).toInt ∧ (xs 1).toInt ≤ 8 from ⟨by omega, by omega⟩), trivial⟩⟩) bm_c33_9
  · skip
    exact bm_leaf C0 hk (show bm_okl xs 0 [(-2147483648, 2147483647), (9, 9)] from ⟨(show -2147483648 ≤ (xs 0).toInt ∧ (xs 0).toInt ≤ 2147483647 from ⟨by omega, by omega⟩), ⟨(show 9 ≤ (xs 1).toInt ∧ (xs 1).toInt ≤ 9 from ⟨by omega, by omega⟩), trivial⟩⟩) bm_c33_10
  · skip
    exact bm_leaf C0 hk (show bm_okl xs 0 [(-2147483648, 2147483647), (10, 10)] from ⟨(show -2147483648 ≤ (xs 0).toInt ∧ (xs 0).toInt ≤ 2147483647 from ⟨by omega, by omega⟩), ⟨(show 10 ≤ (xs 1).toInt ∧ (xs 1).toInt ≤ 10 from ⟨by omega, by omega⟩), trivial⟩⟩) bm_c33_11
  · skip
    exact bm_leaf C0 hk (show bm_okl xs 0 [(-2147483648, 2147483647), (11, 11)] from ⟨(show -2147483648 ≤ (xs 0).toInt ∧ (xs 0).toInt ≤ 2147483647 from ⟨by omega, by omega⟩), ⟨(show 11 ≤ (xs 1).toInt ∧ (xs 1).toInt ≤ 11 from ⟨by omega, by omega⟩), trivial⟩⟩) bm_c33_12
  · skip
    exact bm_leaf C0 hk (show bm_okl xs 0 [(-2147483648, 2147483647), (12, 12)] from ⟨(show -2147483648 ≤ (xs 0).toInt ∧ (xs 0).toInt ≤ 2147483647 from ⟨by omega, by omega⟩), ⟨(show 12 ≤ (xs 1).toInt ∧ (xs 1).toInt ≤ 12 from ⟨by omega, by omega⟩), trivial⟩⟩) bm_c33_13
  · skip
    exact bm_leaf C0 hk (show bm_okl xs 0 [(-2147483648, 2147483647), (13, 13)] from ⟨(show -2147483648 ≤ (xs 0).toInt ∧ (xs 0).toInt ≤ 2147483647 from ⟨by omega, by omega⟩), ⟨(show 13 ≤ (xs 1).toInt ∧ (xs 1).toInt ≤ 13 from ⟨by omega, by omega⟩), trivial⟩⟩) bm_c33_14
  · skip
    exact bm_leaf C0 hk (show bm_okl xs 0 [(-2147483648, 2147483647), (14, 14)] from ⟨(show -2147483648 ≤ (xs 0).toInt ∧ (xs 0).toInt ≤ 2147483647 from ⟨by omega, by omega⟩), ⟨(show 14 ≤ (xs 1).toInt ∧ (xs 1).toInt ≤ 14 from ⟨by omega, by omega⟩), trivial⟩⟩) bm_c33_15
  · skip
    exact bm_leaf C0 hk (show bm_okl xs 0 [(-2147483648, 2147483647), (15, 15)] from ⟨(show -2147483648 ≤ (xs 0).toInt ∧ (xs 0).toInt ≤ 2147483647 from ⟨by omega, by omega⟩), ⟨(show 15 ≤ (xs 1).toInt ∧ (xs 1).toInt ≤ 15 from ⟨by omega, by omega⟩), trivial⟩⟩) bm_c33_16
  · skip
    exact bm_leaf C0 hk (show bm_okl xs 0 [(-2147483648, 2147483647), (16, 16)] from ⟨(show -2147483648 ≤ (xs 0).toInt ∧ (xs 0).toInt ≤ 2147483647 from ⟨by omega, by omega⟩), ⟨(show 16 ≤ (xs 1).toInt ∧ (xs 1).toInt ≤ 16 from ⟨by omega, by omega⟩), trivial⟩⟩) bm_c33_17
  · skip
    exact bm_leaf C0 hk (show bm_okl xs 0 [(-2147483648, 2147483647), (17, 17)] from ⟨(show -2147483648 ≤ (xs 0).toInt ∧ (xs 0).toInt ≤ 2147483647 from ⟨by omega, by omega⟩), ⟨(show 17 ≤ (xs 1).toInt ∧ (xs 1).toInt ≤ 17 from ⟨by omega, by omega⟩), trivial⟩⟩) bm_c33_18
  · skip
    exact bm_leaf C0 hk (show bm_okl xs 0 [(-2147483648, 2147483647), (18, 18)] from ⟨(show -2147483648 ≤ (xs 0).toInt ∧ (xs 0).toInt ≤ 2147483647 from ⟨by omega, by omega⟩), ⟨(show 18 ≤ (xs 1).toInt ∧ (xs 1).toInt ≤ 18 from ⟨by omega, by omega⟩), trivial⟩⟩) bm_c33_19
  · skip
    exact bm_leaf C0 hk (show bm_okl xs 0 [(-2147483648, 2147483647), (19, 19)] from ⟨(show -2147483648 ≤ (xs 0).toInt ∧ (xs 0).toInt ≤ 2147483647 from ⟨by omega, by omega⟩), ⟨(show 19 ≤ (xs 1).toInt ∧ (xs 1).toInt ≤ 19 from ⟨by omega, by omega⟩), trivial⟩⟩) bm_c33_20
  · skip
    exact bm_leaf C0 hk (show bm_okl xs 0 [(-2147483648, 2147483647), (20, 2147483647)] from ⟨(show -2147483648 ≤ (xs 0).toInt ∧ (xs 0).toInt ≤ 2147483647 from ⟨by omega, by omega⟩), ⟨(show 20 ≤ (xs 1).toInt ∧ (xs 1).toInt ≤ 2147483647 from ⟨by omega, by omega⟩), trivial⟩⟩) bm_c33_21
theorem bm_op34 (C0 : lw_At p s m meth c b 6 xs) (hk : xs 0 &&& 63 = 34) : bm_Goal p l e s m below meth c b := by
  have r0 := bm_rng (xs 0)
  have r1 := bm_rng (xs 1)
  have r2 := bm_rng (xs 2)
  have r3 := bm_rng (xs 3)
  have r4 := bm_rng (xs 4)
  rcases (show (xs 1).toInt ≤ 0 ∨ (1 ≤ (xs 1).toInt ∧ (xs 1).toInt ≤ 63) ∨ 64 ≤ (xs 1).toInt by omega) with q1_1 | q1_1 | q1_1
  · skip
    exact bm_leaf C0 hk (show bm_okl xs 0 [(-2147483648, 2147483647), (-2147483648, 0)] from ⟨(show -2147483648 ≤ (xs 0).toInt ∧ (xs 0).toInt ≤ 2147483647 from ⟨by omega, by omega⟩), ⟨(show -2147483648 ≤ (xs 1).toInt ∧ (xs 1).toInt ≤ 0 from ⟨by omega, by omega⟩), trivial⟩⟩) bm_c34_0
  · skip
    rcases (show (xs 2).toInt ≤ -1 ∨ (0 ≤ (xs 2).toInt ∧ (xs 2).toInt ≤ 29999) ∨ 30000 ≤ (xs 2).toInt by omega) with q2_2 | q2_2 | q2_2
    · skip
      exact bm_leaf C0 hk (show bm_okl xs 0 [(-2147483648, 2147483647), (1, 63), (-2147483648, -1)] from ⟨(show -2147483648 ≤ (xs 0).toInt ∧ (xs 0).toInt ≤ 2147483647 from ⟨by omega, by omega⟩), ⟨(show 1 ≤ (xs 1).toInt ∧ (xs 1).toInt ≤ 63 from ⟨by omega, by omega⟩), ⟨(show -2147483648 ≤ (xs 2).toInt ∧ (xs 2).toInt ≤ -1 from ⟨by omega, by omega⟩), trivial⟩⟩⟩) bm_c34_1
    · skip
      exact bm_leaf C0 hk (show bm_okl xs 0 [(-2147483648, 2147483647), (1, 63), (0, 29999)] from ⟨(show -2147483648 ≤ (xs 0).toInt ∧ (xs 0).toInt ≤ 2147483647 from ⟨by omega, by omega⟩), ⟨(show 1 ≤ (xs 1).toInt ∧ (xs 1).toInt ≤ 63 from ⟨by omega, by omega⟩), ⟨(show 0 ≤ (xs 2).toInt ∧ (xs 2).toInt ≤ 29999 from ⟨by omega, by omega⟩), trivial⟩⟩⟩) bm_c34_2
    · skip
      exact bm_leaf C0 hk (show bm_okl xs 0 [(-2147483648, 2147483647), (1, 63), (30000, 2147483647)] from ⟨(show -2147483648 ≤ (xs 0).toInt ∧ (xs 0).toInt ≤ 2147483647 from ⟨by omega, by omega⟩), ⟨(show 1 ≤ (xs 1).toInt ∧ (xs 1).toInt ≤ 63 from ⟨by omega, by omega⟩), ⟨(show 30000 ≤ (xs 2).toInt ∧ (xs 2).toInt ≤ 2147483647 from ⟨by omega, by omega⟩), trivial⟩⟩⟩) bm_c34_3
  · skip
    exact bm_leaf C0 hk (show bm_okl xs 0 [(-2147483648, 2147483647), (64, 2147483647)] from ⟨(show -2147483648 ≤ (xs 0).toInt ∧ (xs 0).toInt ≤ 2147483647 from ⟨by omega, by omega⟩), ⟨(show 64 ≤ (xs 1).toInt ∧ (xs 1).toInt ≤ 2147483647 from ⟨by omega, by omega⟩), trivial⟩⟩) bm_c34_4
theorem bm_op35 (C0 : lw_At p s m meth c b 6 xs) (hk : xs 0 &&& 63 = 35) : bm_Goal p l e s m below meth c b := by
  have r0 := bm_rng (xs 0)
  have r1 := bm_rng (xs 1)
  have r2 := bm_rng (xs 2)
  have r3 := bm_rng (xs 3)
  have r4 := bm_rng (xs 4)
  rcases (show (xs 1).toInt ≤ -1 ∨ 0 ≤ (xs 1).toInt by omega) with q1_1 | q1_1
  · skip
    exact bm_leaf C0 hk (show bm_okl xs 0 [(-2147483648, 2147483647), (-2147483648, -1)] from ⟨(show -2147483648 ≤ (xs 0).toInt ∧ (xs 0).toInt ≤ 2147483647 from ⟨by omega, by omega⟩), ⟨(show -2147483648 ≤ (xs 1).toInt ∧ (xs 1).toInt ≤ -1 from ⟨by omega, by omega⟩), trivial⟩⟩) bm_c35_0
  · skip
    exact bm_leaf C0 hk (show bm_okl xs 0 [(-2147483648, 2147483647), (0, 2147483647)] from ⟨(show -2147483648 ≤ (xs 0).toInt ∧ (xs 0).toInt ≤ 2147483647 from ⟨by omega, by omega⟩), ⟨(show 0 ≤ (xs 1).toInt ∧ (xs 1).toInt ≤ 2147483647 from ⟨by omega, by omega⟩), trivial⟩⟩) bm_c35_1
theorem bm_op36 (C0 : lw_At p s m meth c b 6 xs) (hk : xs 0 &&& 63 = 36) : bm_Goal p l e s m below meth c b := by
  have r0 := bm_rng (xs 0)
  have r1 := bm_rng (xs 1)
  have r2 := bm_rng (xs 2)
  have r3 := bm_rng (xs 3)
  have r4 := bm_rng (xs 4)
  exact bm_leaf C0 hk (show bm_okl xs 0 [] from trivial) bm_c36_0
theorem bm_op37 (C0 : lw_At p s m meth c b 6 xs) (hk : xs 0 &&& 63 = 37) : bm_Goal p l e s m below meth c b := by
  have r0 := bm_rng (xs 0)
  have r1 := bm_rng (xs 1)
  have r2 := bm_rng (xs 2)
  have r3 := bm_rng (xs 3)
  have r4 := bm_rng (xs 4)
  rcases (show (xs 1).toInt ≤ -1 ∨ (xs 1).toInt = 0 ∨ (xs 1).toInt = 1 ∨ (xs 1).toInt = 2 ∨ (xs 1).toInt = 3 ∨ (xs 1).toInt = 4 ∨ (xs 1).toInt = 5 ∨ (xs 1).toInt = 6 ∨ 7 ≤ (xs 1).toInt by omega) with q1_1 | q1_1 | q1_1 | q1_1 | q1_1 | q1_1 | q1_1 | q1_1 | q1_1
  · skip
    exact bm_leaf C0 hk (show bm_okl xs 0 [(-2147483648, 2147483647), (-2147483648, -1)] from ⟨(show -2147483648 ≤ (xs 0).toInt ∧ (xs 0).toInt ≤ 2147483647 from ⟨by omega, by omega⟩), ⟨(show -2147483648 ≤ (xs 1).toInt ∧ (xs 1).toInt ≤ -1 from ⟨by omega, by omega⟩), trivial⟩⟩) bm_c37_0
  · skip
    exact bm_leaf C0 hk (show bm_okl xs 0 [(-2147483648, 2147483647), (0, 0)] from ⟨(show -2147483648 ≤ (xs 0).toInt ∧ (xs 0).toInt ≤ 2147483647 from ⟨by omega, by omega⟩), ⟨(show 0 ≤ (xs 1).toInt ∧ (xs 1).toInt ≤ 0 from ⟨by omega, by omega⟩), trivial⟩⟩) bm_c37_1
  · skip
    exact bm_leaf C0 hk (show bm_okl xs 0 [(-2147483648, 2147483647), (1, 1)] from ⟨(show -2147483648 ≤ (xs 0).toInt ∧ (xs 0).toInt ≤ 2147483647 from ⟨by omega, by omega⟩), ⟨(show 1 ≤ (xs 1).toInt ∧ (xs 1).toInt ≤ 1 from ⟨by omega, by omega⟩), trivial⟩⟩) bm_c37_2
  · skip
    exact bm_leaf C0 hk (show bm_okl xs 0 [(-2147483648, 2147483647), (2, 2)] from ⟨(show -2147483648 ≤ (xs 0).toInt ∧ (xs 0).toInt ≤ 2147483647 from ⟨by omega, by omega⟩), ⟨(show 2 ≤ (xs 1).toInt ∧ (xs 1).toInt ≤ 2 from ⟨by omega, by omega⟩), trivial⟩⟩) bm_c37_3
  · skip
    exact bm_leaf C0 hk (show bm_okl xs 0 [(-2147483648, 2147483647), (3, 3)] from ⟨(show -2147483648 ≤ (xs 0).toInt ∧ (xs 0).toInt ≤ 2147483647 from ⟨by omega, by omega⟩), ⟨(show 3 ≤ (xs 1).toInt ∧ (xs 1).toInt ≤ 3 from ⟨by omega, by omega⟩), trivial⟩⟩) bm_c37_4
  · skip
    exact bm_leaf C0 hk (show bm_okl xs 0 [(-2147483648, 2147483647), (4, 4)] from ⟨(show -2147483648 ≤ (xs 0).toInt ∧ (xs 0).toInt ≤ 2147483647 from ⟨by omega, by omega⟩), ⟨(show 4 ≤ (xs 1).toInt ∧ (xs 1).toInt ≤ 4 from ⟨by omega, by omega⟩), trivial⟩⟩) bm_c37_5
  · skip
    exact bm_leaf C0 hk (show bm_okl xs 0 [(-2147483648, 2147483647), (5, 5)] from ⟨(show -2147483648 ≤ (xs 0).toInt ∧ (xs 0).toInt ≤ 2147483647 from ⟨by omega, by omega⟩), ⟨(show 5 ≤ (xs 1).toInt ∧ (xs 1).toInt ≤ 5 from ⟨by omega, by omega⟩), trivial⟩⟩) bm_c37_6
  · skip
    exact bm_leaf C0 hk (show bm_okl xs 0 [(-2147483648, 2147483647), (6, 6)] from ⟨(show -2147483648 ≤ (xs 0).toInt ∧ (xs 0).toInt ≤ 2147483647 from ⟨by omega, by omega⟩), ⟨(show 6 ≤ (xs 1).toInt ∧ (xs 1).toInt ≤ 6 from ⟨by omega, by omega⟩), trivial⟩⟩) bm_c37_7
  · skip
    exact bm_leaf C0 hk (show bm_okl xs 0 [(-2147483648, 2147483647), (7, 2147483647)] from ⟨(show -2147483648 ≤ (xs 0).toInt ∧ (xs 0).toInt ≤ 2147483647 from ⟨by omega, by omega⟩), ⟨(show 7 ≤ (xs 1).toInt ∧ (xs 1).toInt ≤ 2147483647 from ⟨by omega, by omega⟩), trivial⟩⟩) bm_c37_8
theorem bm_op38 (C0 : lw_At p s m meth c b 6 xs) (hk : xs 0 &&& 63 = 38) : bm_Goal p l e s m below meth c b := by
  have r0 := bm_rng (xs 0)
  have r1 := bm_rng (xs 1)
  have r2 := bm_rng (xs 2)
  have r3 := bm_rng (xs 3)
  have r4 := bm_rng (xs 4)
  exact bm_leaf C0 hk (show bm_okl xs 0 [] from trivial) bm_c38_0
theorem bm_op39 (C0 : lw_At p s m meth c b 6 xs) (hk : xs 0 &&& 63 = 39) : bm_Goal p l e s m below meth c b := by
  have r0 := bm_rng (xs 0)
  have r1 := bm_rng (xs 1)
  have r2 := bm_rng (xs 2)
  have r3 := bm_rng (xs 3)
  have r4 := bm_rng (xs 4)
  exact bm_leaf C0 hk (show bm_okl xs 0 [] from trivial) bm_c39_0
theorem bm_op40 (C0 : lw_At p s m meth c b 6 xs) (hk : xs 0 &&& 63 = 40) : bm_Goal p l e s m below meth c b := by
  have r0 := bm_rng (xs 0)
  have r1 := bm_rng (xs 1)
  have r2 := bm_rng (xs 2)
  have r3 := bm_rng (xs 3)
  have r4 := bm_rng (xs 4)
  exact bm_leaf C0 hk (show bm_okl xs 0 [] from trivial) bm_c40_0
theorem bm_op41 (C0 : lw_At p s m meth c b 6 xs) (hk : xs 0 &&& 63 = 41) : bm_Goal p l e s m below meth c b := by
  have r0 := bm_rng (xs 0)
  have r1 := bm_rng (xs 1)
  have r2 := bm_rng (xs 2)
  have r3 := bm_rng (xs 3)
  have r4 := bm_rng (xs 4)
  exact bm_leaf C0 hk (show bm_okl xs 0 [] from trivial) bm_c41_0
theorem bm_op42 (C0 : lw_At p s m meth c b 6 xs) (hk : xs 0 &&& 63 = 42) : bm_Goal p l e s m below meth c b := by
  have r0 := bm_rng (xs 0)
  have r1 := bm_rng (xs 1)
  have r2 := bm_rng (xs 2)
  have r3 := bm_rng (xs 3)
  have r4 := bm_rng (xs 4)
  exact bm_leaf C0 hk (show bm_okl xs 0 [] from trivial) bm_c42_0
theorem bm_op43 (C0 : lw_At p s m meth c b 6 xs) (hk : xs 0 &&& 63 = 43) : bm_Goal p l e s m below meth c b := by
  have r0 := bm_rng (xs 0)
  have r1 := bm_rng (xs 1)
  have r2 := bm_rng (xs 2)
  have r3 := bm_rng (xs 3)
  have r4 := bm_rng (xs 4)
  exact bm_leaf C0 hk (show bm_okl xs 0 [] from trivial) bm_c43_0
theorem bm_op44 (C0 : lw_At p s m meth c b 6 xs) (hk : xs 0 &&& 63 = 44) : bm_Goal p l e s m below meth c b := by
  have r0 := bm_rng (xs 0)
  have r1 := bm_rng (xs 1)
  have r2 := bm_rng (xs 2)
  have r3 := bm_rng (xs 3)
  have r4 := bm_rng (xs 4)
  exact bm_leaf C0 hk (show bm_okl xs 0 [] from trivial) bm_c44_0
theorem bm_op45 (C0 : lw_At p s m meth c b 6 xs) (hk : xs 0 &&& 63 = 45) : bm_Goal p l e s m below meth c b := by
  have r0 := bm_rng (xs 0)
  have r1 := bm_rng (xs 1)
  have r2 := bm_rng (xs 2)
  have r3 := bm_rng (xs 3)
  have r4 := bm_rng (xs 4)
  exact bm_leaf C0 hk (show bm_okl xs 0 [] from trivial) bm_c45_0
theorem bm_op46 (C0 : lw_At p s m meth c b 6 xs) (hk : xs 0 &&& 63 = 46) : bm_Goal p l e s m below meth c b := by
  have r0 := bm_rng (xs 0)
  have r1 := bm_rng (xs 1)
  have r2 := bm_rng (xs 2)
  have r3 := bm_rng (xs 3)
  have r4 := bm_rng (xs 4)
  exact bm_leaf C0 hk (show bm_okl xs 0 [] from trivial) bm_c46_0
theorem bm_op47 (C0 : lw_At p s m meth c b 6 xs) (hk : xs 0 &&& 63 = 47) : bm_Goal p l e s m below meth c b := by
  have r0 := bm_rng (xs 0)
  have r1 := bm_rng (xs 1)
  have r2 := bm_rng (xs 2)
  have r3 := bm_rng (xs 3)
  have r4 := bm_rng (xs 4)
  exact bm_leaf C0 hk (show bm_okl xs 0 [] from trivial) bm_c47_0
theorem bm_op48 (C0 : lw_At p s m meth c b 6 xs) (hk : xs 0 &&& 63 = 48) : bm_Goal p l e s m below meth c b := by
  have r0 := bm_rng (xs 0)
  have r1 := bm_rng (xs 1)
  have r2 := bm_rng (xs 2)
  have r3 := bm_rng (xs 3)
  have r4 := bm_rng (xs 4)
  exact bm_leaf C0 hk (show bm_okl xs 0 [] from trivial) bm_c48_0
theorem bm_op49 (C0 : lw_At p s m meth c b 6 xs) (hk : xs 0 &&& 63 = 49) : bm_Goal p l e s m below meth c b := by
  have r0 := bm_rng (xs 0)
  have r1 := bm_rng (xs 1)
  have r2 := bm_rng (xs 2)
  have r3 := bm_rng (xs 3)
  have r4 := bm_rng (xs 4)
  exact bm_leaf C0 hk (show bm_okl xs 0 [] from trivial) bm_c49_0
theorem bm_op50 (C0 : lw_At p s m meth c b 6 xs) (hk : xs 0 &&& 63 = 50) : bm_Goal p l e s m below meth c b := by
  have r0 := bm_rng (xs 0)
  have r1 := bm_rng (xs 1)
  have r2 := bm_rng (xs 2)
  have r3 := bm_rng (xs 3)
  have r4 := bm_rng (xs 4)
  exact bm_leaf C0 hk (show bm_okl xs 0 [] from trivial) bm_c50_0
theorem bm_op51 (C0 : lw_At p s m meth c b 6 xs) (hk : xs 0 &&& 63 = 51) : bm_Goal p l e s m below meth c b := by
  have r0 := bm_rng (xs 0)
  have r1 := bm_rng (xs 1)
  have r2 := bm_rng (xs 2)
  have r3 := bm_rng (xs 3)
  have r4 := bm_rng (xs 4)
  exact bm_leaf C0 hk (show bm_okl xs 0 [] from trivial) bm_c51_0
theorem bm_op52 (C0 : lw_At p s m meth c b 6 xs) (hk : xs 0 &&& 63 = 52) : bm_Goal p l e s m below meth c b := by
  have r0 := bm_rng (xs 0)
  have r1 := bm_rng (xs 1)
  have r2 := bm_rng (xs 2)
  have r3 := bm_rng (xs 3)
  have r4 := bm_rng (xs 4)
  exact bm_leaf C0 hk (show bm_okl xs 0 [] from trivial) bm_c52_0
theorem bm_op53 (C0 : lw_At p s m meth c b 6 xs) (hk : xs 0 &&& 63 = 53) : bm_Goal p l e s m below meth c b := by
  have r0 := bm_rng (xs 0)
  have r1 := bm_rng (xs 1)
  have r2 := bm_rng (xs 2)
  have r3 := bm_rng (xs 3)
  have r4 := bm_rng (xs 4)
  exact bm_leaf C0 hk (show bm_okl xs 0 [] from trivial) bm_c53_0
theorem bm_op54 (C0 : lw_At p s m meth c b 6 xs) (hk : xs 0 &&& 63 = 54) : bm_Goal p l e s m below meth c b := by
  have r0 := bm_rng (xs 0)
  have r1 := bm_rng (xs 1)
  have r2 := bm_rng (xs 2)
  have r3 := bm_rng (xs 3)
  have r4 := bm_rng (xs 4)
  exact bm_leaf C0 hk (show bm_okl xs 0 [] from trivial) bm_c54_0
theorem bm_op55 (C0 : lw_At p s m meth c b 6 xs) (hk : xs 0 &&& 63 = 55) : bm_Goal p l e s m below meth c b := by
  have r0 := bm_rng (xs 0)
  have r1 := bm_rng (xs 1)
  have r2 := bm_rng (xs 2)
  have r3 := bm_rng (xs 3)
  have r4 := bm_rng (xs 4)
  exact bm_leaf C0 hk (show bm_okl xs 0 [] from trivial) bm_c55_0
theorem bm_op56 (C0 : lw_At p s m meth c b 6 xs) (hk : xs 0 &&& 63 = 56) : bm_Goal p l e s m below meth c b := by
  have r0 := bm_rng (xs 0)
  have r1 := bm_rng (xs 1)
  have r2 := bm_rng (xs 2)
  have r3 := bm_rng (xs 3)
  have r4 := bm_rng (xs 4)
  exact bm_leaf C0 hk (show bm_okl xs 0 [] from trivial) bm_c56_0
theorem bm_op57 (C0 : lw_At p s m meth c b 6 xs) (hk : xs 0 &&& 63 = 57) : bm_Goal p l e s m below meth c b := by
  have r0 := bm_rng (xs 0)
  have r1 := bm_rng (xs 1)
  have r2 := bm_rng (xs 2)
  have r3 := bm_rng (xs 3)
  have r4 := bm_rng (xs 4)
  exact bm_leaf C0 hk (show bm_okl xs 0 [] from trivial) bm_c57_0
theorem bm_op58 (C0 : lw_At p s m meth c b 6 xs) (hk : xs 0 &&& 63 = 58) : bm_Goal p l e s m below meth c b := by
  have r0 := bm_rng (xs 0)
  have r1 := bm_rng (xs 1)
  have r2 := bm_rng (xs 2)
  have r3 := bm_rng (xs 3)
  have r4 := bm_rng (xs 4)
  exact bm_leaf C0 hk (show bm_okl xs 0 [] from trivial) bm_c58_0
theorem bm_op59 (C0 : lw_At p s m meth c b 6 xs) (hk : xs 0 &&& 63 = 59) : bm_Goal p l e s m below meth c b := by
  have r0 := bm_rng (xs 0)
  have r1 := bm_rng (xs 1)
  have r2 := bm_rng (xs 2)
  have r3 := bm_rng (xs 3)
  have r4 := bm_rng (xs 4)
  exact bm_leaf C0 hk (show bm_okl xs 0 [] from trivial) bm_c59_0
theorem bm_op60 (C0 : lw_At p s m meth c b 6 xs) (hk : xs 0 &&& 63 = 60) : bm_Goal p l e s m below meth c b := by
  have r0 := bm_rng (xs 0)
  have r1 := bm_rng (xs 1)
  have r2 := bm_rng (xs 2)
  have r3 := bm_rng (xs 3)
  have r4 := bm_rng (xs 4)
  exact bm_leaf C0 hk (show bm_okl xs 0 [] from trivial) bm_c60_0
theorem bm_op61 (C0 : lw_At p s m meth c b 6 xs) (hk : xs 0 &&& 63 = 61) : bm_Goal p l e s m below meth c b := by
  have r0 := bm_rng (xs 0)
  have r1 := bm_rng (xs 1)
  have r2 := bm_rng (xs 2)
  have r3 := bm_rng (xs 3)
  have r4 := bm_rng (xs 4)
  exact bm_leaf C0 hk (show bm_okl xs 0 [] from trivial) bm_c61_0
theorem bm_op62 (C0 : lw_At p s m meth c b 6 xs) (hk : xs 0 &&& 63 = 62) : bm_Goal p l e s m below meth c b := by
  have r0 := bm_rng (xs 0)
  have r1 := bm_rng (xs 1)
  have r2 := bm_rng (xs 2)
  have r3 := bm_rng (xs 3)
  have r4 := bm_rng (xs 4)
  exact bm_leaf C0 hk (show bm_okl xs 0 [] from trivial) bm_c62_0
theorem bm_op63 (C0 : lw_At p s m meth c b 6 xs) (hk : xs 0 &&& 63 = 63) : bm_Goal p l e s m below meth c b := by
  have r0 := bm_rng (xs 0)
  have r1 := bm_rng (xs 1)
  have r2 := bm_rng (xs 2)
  have r3 := bm_rng (xs 3)
  have r4 := bm_rng (xs 4)
  exact bm_leaf C0 hk (show bm_okl xs 0 [] from trivial) bm_c63_0
end BML
theorem bm_short {p : Program} {e : Env} {s : State} {m : MethodId} {below : List Frame} {meth : Method} {c : Code} (l : Launch) {b L : Nat} {xs : Nat → Int32} (C0 : lw_At p s m meth c b L xs) (h : bm_chk 400 10 (L, -1, []) = true) : W p l e room_1 s m #[Value.ref b] below meth c s.heap [] 0 0 (lw_Z below #[Value.ref b] s) (entryFrame m ([Value.ref b] : List Value).toArray 4) :=
  bm_law l C0 (n := 400) (d := 10) (G := (L, -1, [])) (by decide) rfl ⟨fun i q hq => by simp at hq, fun q => absurd rfl q⟩ h
theorem bm_and63 (x : Int32) : ∃ k : Nat, k < 64 ∧ x &&& 63 = nI k := pk_andE x 6 rfl
theorem whole_start {p : Program} {e : Env} {s : State} {m : MethodId} {below : List Frame} {meth : Method} {c : Code} (l : Launch) {b L : Nat} {xs : Nat → Int32} (hL : L ≤ 6) (C0 : lw_At p s m meth c b L xs) : W p l e room_1 s m #[Value.ref b] below meth c s.heap [] 0 0 (lw_Z below #[Value.ref b] s) (entryFrame m ([Value.ref b] : List Value).toArray 4) := by
  rcases (show L = 0 ∨ L = 1 ∨ L = 2 ∨ L = 3 ∨ L = 4 ∨ L = 5 ∨ L = 6 by omega) with rfl | rfl | rfl | rfl | rfl | rfl | rfl
  · exact bm_short l C0 bm_cL0
  · exact bm_short l C0 bm_cL1
  · exact bm_short l C0 bm_cL2
  · exact bm_short l C0 bm_cL3
  · exact bm_short l C0 bm_cL4
  · exact bm_short l C0 bm_cL5
  · obtain ⟨k, hk, hx⟩ := bm_and63 (xs 0)
    have key : ∀ j : Nat, j < 64 → xs 0 &&& 63 = nI j → W p l e room_1 s m #[Value.ref b] below meth c s.heap [] 0 0 (lw_Z below #[Value.ref b] s) (entryFrame m ([Value.ref b] : List Value).toArray 4) := by
      intro j hj hx
      match j, hj, hx with
      | 0, _, hx => exact bm_op0 C0 hx
      | 1, _, hx => exact bm_op1 C0 hx
      | 2, _, hx => exact bm_op2 C0 hx
      | 3, _, hx => exact bm_op3 C0 hx
      | 4, _, hx => exact bm_op4 C0 hx
      | 5, _, hx => exact bm_op5 C0 hx
      | 6, _, hx => exact bm_op6 C0 hx
      | 7, _, hx => exact bm_op7 C0 hx
      | 8, _, hx => exact bm_op8 C0 hx
      | 9, _, hx => exact bm_op9 C0 hx
      | 10, _, hx => exact bm_op10 C0 hx
      | 11, _, hx => exact bm_op11 C0 hx
      | 12, _, hx => exact bm_op12 C0 hx
      | 13, _, hx => exact bm_op13 C0 hx
      | 14, _, hx => exact bm_op14 C0 hx
      | 15, _, hx => exact bm_op15 C0 hx
      | 16, _, hx => exact bm_op16 C0 hx
      | 17, _, hx => exact bm_op17 C0 hx
      | 18, _, hx => exact bm_op18 C0 hx
      | 19, _, hx => exact bm_op19 C0 hx
      | 20, _, hx => exact bm_op20 C0 hx
      | 21, _, hx => exact bm_op21 C0 hx
      | 22, _, hx => exact bm_op22 C0 hx
      | 23, _, hx => exact bm_op23 C0 hx
      | 24, _, hx => exact bm_op24 C0 hx
      | 25, _, hx => exact bm_op25 C0 hx
      | 26, _, hx => exact bm_op26 C0 hx
      | 27, _, hx => exact bm_op27 C0 hx
      | 28, _, hx => exact bm_op28 C0 hx
      | 29, _, hx => exact bm_op29 C0 hx
      | 30, _, hx => exact bm_op30 C0 hx
      | 31, _, hx => exact bm_op31 C0 hx
      | 32, _, hx => exact bm_op32 C0 hx
      | 33, _, hx => exact bm_op33 C0 hx
      | 34, _, hx => exact bm_op34 C0 hx
      | 35, _, hx => exact bm_op35 C0 hx
      | 36, _, hx => exact bm_op36 C0 hx
      | 37, _, hx => exact bm_op37 C0 hx
      | 38, _, hx => exact bm_op38 C0 hx
      | 39, _, hx => exact bm_op39 C0 hx
      | 40, _, hx => exact bm_op40 C0 hx
      | 41, _, hx => exact bm_op41 C0 hx
      | 42, _, hx => exact bm_op42 C0 hx
      | 43, _, hx => exact bm_op43 C0 hx
      | 44, _, hx => exact bm_op44 C0 hx
      | 45, _, hx => exact bm_op45 C0 hx
      | 46, _, hx => exact bm_op46 C0 hx
      | 47, _, hx => exact bm_op47 C0 hx
      | 48, _, hx => exact bm_op48 C0 hx
      | 49, _, hx => exact bm_op49 C0 hx
      | 50, _, hx => exact bm_op50 C0 hx
      | 51, _, hx => exact bm_op51 C0 hx
      | 52, _, hx => exact bm_op52 C0 hx
      | 53, _, hx => exact bm_op53 C0 hx
      | 54, _, hx => exact bm_op54 C0 hx
      | 55, _, hx => exact bm_op55 C0 hx
      | 56, _, hx => exact bm_op56 C0 hx
      | 57, _, hx => exact bm_op57 C0 hx
      | 58, _, hx => exact bm_op58 C0 hx
      | 59, _, hx => exact bm_op59 C0 hx
      | 60, _, hx => exact bm_op60 C0 hx
      | 61, _, hx => exact bm_op61 C0 hx
      | 62, _, hx => exact bm_op62 C0 hx
      | 63, _, hx => exact bm_op63 C0 hx
      | n + 64, hj, _ => exact absurd hj (by omega)
    exact key k hk hx
