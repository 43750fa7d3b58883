/-! THE CHECKER, 3: abstract values, types of places, what a store says of a heap -/
/-- 0 anything, 1 an int, 2 a long, 3 a comparison's sign, 4 null, 5 a known cell, 6 a symbol's cell or null -/
abbrev cq_A : Type := Nat × cq_F × Nat
def cq_u : cq_A := (0, (0, []), 0)
def cq_i (f : cq_F) : cq_A := (1, f, 0)
def cq_l (f : cq_F) : cq_A := (2, f, 0)
def cq_v (f : cq_F) : cq_A := (3, f, 0)
def cq_nu : cq_A := (4, (0, []), 0)
def cq_rc (k : Nat) : cq_A := (5, (0, []), k)
def cq_rs (s : Nat) : cq_A := (6, (0, []), s)
/-- what an abstract value says of a value -/
def cq_g (ρ : Nat → Int) (a : cq_A) (v : Value) : Prop := match a with
  | (0, _, _) => True
  | (1, f, _) => ∃ x : Int32, v = .int x ∧ x.toInt = cq_e ρ f
  | (2, f, _) => ∃ x : Int64, v = .long x ∧ x.toInt = cq_e ρ f
  | (3, f, _) => ∃ x : Int32, v = .int x ∧ (x.toInt < 0 ↔ cq_e ρ f < 0) ∧ (x.toInt = 0 ↔ cq_e ρ f = 0)
  | (4, _, _) => v = .null
  | (5, _, k) => v = .ref k
  | (6, _, s) => (ρ s < 0 ∧ v = .null) ∨ (0 ≤ ρ s ∧ v = .ref (ρ s).toNat)
  | _ => False
def cq_gs (ρ : Nat → Int) : List cq_A → List Value → Prop
  | [], [] => True
  | a :: as, v :: vs => cq_g ρ a v ∧ cq_gs ρ as vs
  | _, _ => False
/-- types of places: 0 none, 1 an int within, 2 a long, 3 a known cell, 4 an object, 5 one or null, 6 an array, 7 one of two cells, 8 an int up to so many times the count, 9 an int below the count or 0, 10 an int up to a bound less the place, 11 an object, or null from the count on -/
abbrev cq_T : Type := Nat × Int × Int × Nat × Nat × Nat
/-- the number that stands at a place -/
def cq_n (h : am_H) (c j : Nat) : Int := match h.2.2.2 c j with
  | .int x => x.toInt
  | _ => 0
/-- kinds of cells that calls make: objects (0, number), arrays (1, code, length + 1 or 0), texts (2) -/
abbrev cq_Kd : Type := Nat × Nat × Nat
def cq_kOk (h : am_H) (a : Nat) (k : cq_Kd) : Prop := match k with
  | (0, ci, _) => 130 ≤ a ∧ a < h.1 ∧ h.2.2.1 a = (0, ci, am_N ci)
  | (1, tc, ln) => 130 ≤ a ∧ a < h.1 ∧ (h.2.2.1 a).1 = 1 ∧ (h.2.2.1 a).2.1 = tc ∧ (ln = 0 ∨ (h.2.2.1 a).2.2 + 1 = ln)
  | _ => 7 ≤ a ∧ a < 23
def cq_ht (h : am_H) (j : Nat) (t : cq_T) (v : Value) : Prop := match t with
  | (0, _) => True
  | (1, l, u, _) => ∃ x : Int32, v = .int x ∧ l ≤ x.toInt ∧ x.toInt ≤ u
  | (2, _) => ∃ x : Int64, v = .long x
  | (3, _, _, k, _) => v = .ref k
  | (4, _, _, k, _) => ∃ a, v = .ref a ∧ cq_kOk h a (0, k, 0)
  | (5, _, _, k, _) => v = .null ∨ ∃ a, v = .ref a ∧ cq_kOk h a (0, k, 0)
  | (6, _, _, tc, ln, _) => ∃ a, v = .ref a ∧ cq_kOk h a (1, tc, ln)
  | (7, _, _, k, k', _) => v = .ref k ∨ v = .ref k'
  | (8, l, u, k, _) => ∃ x : Int32, v = .int x ∧ l ≤ x.toInt ∧ x.toInt ≤ u ∧ x.toInt ≤ (k : Int) * cq_n h 40 13
  | (9, l, u, _) => ∃ x : Int32, v = .int x ∧ l ≤ x.toInt ∧ x.toInt ≤ u ∧ (x.toInt < cq_n h 40 13 ∨ x.toInt = 0)
  | (10, l, u, _) => ∃ x : Int32, v = .int x ∧ l ≤ x.toInt ∧ x.toInt ≤ u - j
  | (11, _, _, k, c, i) => (v = .null ∧ cq_n h c i ≤ j) ∨ ∃ a, v = .ref a ∧ cq_kOk h a (0, k, 0)
  | _ => False
def cq_fix (c : Nat) : am_Sh := bif Nat.blt c 85 then (bif Nat.blt c 62 then (bif Nat.blt c 51 then (bif Nat.blt c 45 then (bif Nat.blt c 42 then (bif Nat.blt c 41 then ((0, 11, 20)) else ((0, 9, 7))) else (bif Nat.blt c 43 then ((1, 1, 1600)) else (bif Nat.blt c 44 then ((0, 8, 6)) else ((1, 0, 7))))) else (bif Nat.blt c 48 then (bif Nat.blt c 46 then ((1, 0, 6)) else (bif Nat.blt c 47 then ((1, 0, 7)) else ((1, 0, 6)))) else (bif Nat.blt c 49 then ((0, 7, 6)) else (bif Nat.blt c 50 then ((1, 8, 80)) else ((1, 0, 60)))))) else (bif Nat.blt c 56 then (bif Nat.blt c 53 then ((1, 0, 60)) else (bif Nat.blt c 54 then ((0, 0, 6)) else (bif Nat.blt c 55 then ((0, 3, 10)) else ((1, 3, 240))))) else (bif Nat.blt c 59 then (bif Nat.blt c 57 then ((1, 0, 31)) else (bif Nat.blt c 58 then ((1, 0, 30)) else ((1, 0, 31)))) else ((1, 0, 31))))) else (bif Nat.blt c 73 then (bif Nat.blt c 67 then (bif Nat.blt c 64 then (bif Nat.blt c 63 then ((1, 0, 9)) else ((0, 2, 12))) else (bif Nat.blt c 65 then ((1, 0, 20)) else (bif Nat.blt c 66 then ((1, 0, 15)) else ((1, 5, 0))))) else (bif Nat.blt c 70 then (bif Nat.blt c 68 then ((0, 5, 5)) else (bif Nat.blt c 69 then ((1, 0, 14)) else ((1, 0, 10)))) else (bif Nat.blt c 71 then ((1, 0, 100)) else (bif Nat.blt c 72 then ((1, 0, 10240)) else ((0, 10, 14)))))) else (bif Nat.blt c 79 then (bif Nat.blt c 76 then (bif Nat.blt c 74 then ((1, 10, 40)) else (bif Nat.blt c 75 then ((1, 5, 14)) else ((1, 0, 14)))) else (bif Nat.blt c 77 then ((1, 0, 20)) else (bif Nat.blt c 78 then ((1, 0, 14)) else ((0, 13, 82))))) else (bif Nat.blt c 82 then (bif Nat.blt c 80 then ((0, 12, 6)) else (bif Nat.blt c 81 then ((1, 1, 1600)) else ((1, 0, 7)))) else (bif Nat.blt c 83 then ((1, 0, 6)) else (bif Nat.blt c 84 then ((1, 0, 7)) else ((1, 0, 6)))))))) else (bif Nat.blt c 107 then (bif Nat.blt c 96 then (bif Nat.blt c 90 then (bif Nat.blt c 87 then (bif Nat.blt c 86 then ((1, 2, 13)) else ((1, 0, 40))) else ((1, 0, 40))) else (bif Nat.blt c 93 then ((1, 0, 40)) else (bif Nat.blt c 94 then ((1, 0, 121)) else (bif Nat.blt c 95 then ((1, 0, 3630)) else ((1, 3, 29040)))))) else (bif Nat.blt c 101 then (bif Nat.blt c 98 then ((1, 2, 3630)) else (bif Nat.blt c 99 then ((1, 0, 31)) else (bif Nat.blt c 100 then ((1, 0, 31)) else ((1, 0, 30))))) else (bif Nat.blt c 104 then (bif Nat.blt c 102 then ((1, 0, 81)) else (bif Nat.blt c 103 then ((1, 0, 961)) else ((1, 0, 81)))) else ((1, 0, 81))))) else (bif Nat.blt c 118 then (bif Nat.blt c 112 then ((1, 0, 81)) else (bif Nat.blt c 115 then (bif Nat.blt c 113 then ((1, 0, 81)) else (bif Nat.blt c 114 then ((1, 0, 81)) else ((1, 0, 60)))) else (bif Nat.blt c 116 then ((1, 0, 60)) else (bif Nat.blt c 117 then ((1, 0, 60)) else ((1, 0, 14)))))) else (bif Nat.blt c 124 then (bif Nat.blt c 121 then (bif Nat.blt c 119 then ((1, 0, 14)) else (bif Nat.blt c 120 then ((1, 2, 14)) else ((1, 0, 14)))) else (bif Nat.blt c 122 then ((1, 0, 14)) else (bif Nat.blt c 123 then ((1, 0, 20)) else ((1, 0, 10))))) else (bif Nat.blt c 127 then (bif Nat.blt c 125 then ((1, 0, 10240)) else (bif Nat.blt c 126 then ((1, 2, 196)) else ((1, 0, 20)))) else ((1, 0, 14))))))
def cq_cl (k j : Nat) : cq_T := bif Nat.blt k 7 then (bif Nat.blt k 3 then (bif Nat.blt k 1 then (bif Nat.blt j 3 then (bif Nat.blt j 1 then ((3, 0, 0, 54, 0, 0)) else (bif Nat.blt j 2 then ((3, 0, 0, 58, 0, 0)) else ((3, 0, 0, 59, 0, 0)))) else (bif Nat.blt j 4 then ((3, 0, 0, 60, 0, 0)) else (bif Nat.blt j 5 then ((3, 0, 0, 61, 0, 0)) else ((3, 0, 0, 62, 0, 0))))) else (bif Nat.blt k 2 then (bif Nat.blt j 4 then (bif Nat.blt j 2 then (bif Nat.blt j 1 then ((1, (-2147483648), 2147483647, 0, 0, 0)) else ((4, 0, 0, 6, 0, 0))) else (bif Nat.blt j 3 then ((1, 0, 1, 0, 0, 0)) else ((1, (-2147483648), 2147483647, 0, 0, 0)))) else (bif Nat.blt j 6 then (bif Nat.blt j 5 then ((5, 0, 0, 3, 0, 0)) else ((1, (-2147483648), 2147483647, 0, 0, 0))) else ((1, (-2147483648), 2147483647, 0, 0, 0)))) else (bif Nat.blt j 6 then (bif Nat.blt j 3 then (bif Nat.blt j 1 then ((1, (-2147483648), 2147483647, 0, 0, 0)) else (bif Nat.blt j 2 then ((3, 0, 0, 64, 0, 0)) else ((3, 0, 0, 65, 0, 0)))) else (bif Nat.blt j 4 then ((7, 0, 0, 66, 74, 0)) else (bif Nat.blt j 5 then ((8, 0, 14, 1, 0, 0)) else ((1, (-2147483648), 2147483647, 0, 0, 0))))) else ((1, (-2147483648), 2147483647, 0, 0, 0))))) else (bif Nat.blt k 5 then (bif Nat.blt k 4 then (bif Nat.blt j 5 then (bif Nat.blt j 2 then (bif Nat.blt j 1 then ((6, 0, 0, 3, 0, 0)) else ((6, 0, 0, 0, 0, 0))) else (bif Nat.blt j 3 then ((6, 0, 0, 0, 0, 0)) else (bif Nat.blt j 4 then ((1, 0, 30, 0, 0, 0)) else ((1, (-2147483648), 2147483647, 0, 0, 0))))) else (bif Nat.blt j 7 then ((1, (-2147483648), 2147483647, 0, 0, 0)) else (bif Nat.blt j 8 then ((1, (-2147483648), 2147483647, 0, 0, 0)) else (bif Nat.blt j 9 then ((1, (-1), 31, 0, 0, 0)) else ((1, (-2147483648), 2147483647, 0, 0, 0)))))) else ((1, (-2147483648), 2147483647, 0, 0, 0))) else (bif Nat.blt k 6 then (bif Nat.blt j 2 then (bif Nat.blt j 1 then ((3, 0, 0, 68, 0, 0)) else ((3, 0, 0, 69, 0, 0))) else (bif Nat.blt j 3 then ((3, 0, 0, 70, 0, 0)) else (bif Nat.blt j 4 then ((3, 0, 0, 71, 0, 0)) else ((8, 0, 10, 1, 0, 0))))) else (bif Nat.blt j 4 then (bif Nat.blt j 2 then (bif Nat.blt j 1 then ((1, 0, 19, 0, 0, 0)) else ((1, (-2147483648), 2147483647, 0, 0, 0))) else ((1, (-2147483648), 2147483647, 0, 0, 0))) else (bif Nat.blt j 6 then (bif Nat.blt j 5 then ((1, (-1), 19, 0, 0, 0)) else ((1, (-2147483648), 2147483647, 0, 0, 0))) else (bif Nat.blt j 7 then ((1, 0, 3, 0, 0, 0)) else (bif Nat.blt j 8 then ((6, 0, 0, 7, 4, 0)) else ((6, 0, 0, 0, 4, 0))))))))) else (bif Nat.blt k 10 then (bif Nat.blt k 8 then (bif Nat.blt j 3 then (bif Nat.blt j 1 then ((3, 0, 0, 49, 0, 0)) else (bif Nat.blt j 2 then ((1, 0, 80, 0, 0, 0)) else ((3, 0, 0, 50, 0, 0)))) else (bif Nat.blt j 4 then ((3, 0, 0, 51, 0, 0)) else (bif Nat.blt j 5 then ((3, 0, 0, 52, 0, 0)) else ((1, 0, 60, 0, 0, 0))))) else (bif Nat.blt k 9 then (bif Nat.blt j 3 then (bif Nat.blt j 1 then ((3, 0, 0, 44, 0, 0)) else (bif Nat.blt j 2 then ((3, 0, 0, 45, 0, 0)) else ((3, 0, 0, 46, 0, 0)))) else (bif Nat.blt j 4 then ((3, 0, 0, 47, 0, 0)) else ((1, (-2147483648), 2147483647, 0, 0, 0)))) else (bif Nat.blt j 3 then (bif Nat.blt j 1 then ((3, 0, 0, 42, 0, 0)) else (bif Nat.blt j 2 then ((1, 0, 1600, 0, 0, 0)) else ((1, (-2147483648), 2147483647, 0, 0, 0)))) else (bif Nat.blt j 5 then ((1, (-2147483648), 2147483647, 0, 0, 0)) else ((1, 0, 1600, 0, 0, 0)))))) else (bif Nat.blt k 12 then (bif Nat.blt k 11 then (bif Nat.blt j 7 then (bif Nat.blt j 3 then (bif Nat.blt j 1 then ((1, 0, 1, 0, 0, 0)) else ((1, (-2147483648), 2147483647, 0, 0, 0))) else (bif Nat.blt j 5 then (bif Nat.blt j 4 then ((1, (-2147483648), 2147483647, 0, 0, 0)) else ((5, 0, 0, 1, 0, 0))) else (bif Nat.blt j 6 then ((5, 0, 0, 1, 0, 0)) else ((1, (-2147483648), 2147483647, 0, 0, 0))))) else ((1, (-2147483648), 2147483647, 0, 0, 0))) else (bif Nat.blt j 10 then (bif Nat.blt j 5 then (bif Nat.blt j 2 then (bif Nat.blt j 1 then ((3, 0, 0, 41, 0, 0)) else ((3, 0, 0, 43, 0, 0))) else (bif Nat.blt j 3 then ((3, 0, 0, 48, 0, 0)) else (bif Nat.blt j 4 then ((3, 0, 0, 53, 0, 0)) else ((3, 0, 0, 63, 0, 0))))) else (bif Nat.blt j 7 then (bif Nat.blt j 6 then ((3, 0, 0, 67, 0, 0)) else ((3, 0, 0, 72, 0, 0))) else (bif Nat.blt j 8 then ((3, 0, 0, 73, 0, 0)) else (bif Nat.blt j 9 then ((1, 0, 40, 0, 0, 0)) else ((1, 0, 29999, 0, 0, 0)))))) else (bif Nat.blt j 15 then (bif Nat.blt j 12 then ((1, (-2147483648), 2147483647, 0, 0, 0)) else (bif Nat.blt j 13 then ((3, 0, 0, 74, 0, 0)) else (bif Nat.blt j 14 then ((1, 0, 14, 0, 0, 0)) else ((3, 0, 0, 75, 0, 0))))) else (bif Nat.blt j 17 then (bif Nat.blt j 16 then ((8, 0, 14, 14, 0, 0)) else ((3, 0, 0, 76, 0, 0))) else (bif Nat.blt j 18 then ((3, 0, 0, 77, 0, 0)) else (bif Nat.blt j 19 then ((1, 0, 1, 0, 0, 0)) else ((1, (-2147483648), 2147483647, 0, 0, 0)))))))) else (bif Nat.blt k 13 then (bif Nat.blt j 3 then ((0, 0, 0, 0, 0, 0)) else (bif Nat.blt j 4 then ((0, 0, 0, 0, 0, 0)) else (bif Nat.blt j 5 then ((0, 0, 0, 0, 0, 0)) else ((1, (-2147483648), 2147483647, 0, 0, 0))))) else (bif Nat.blt j 41 then (bif Nat.blt j 20 then (bif Nat.blt j 10 then (bif Nat.blt j 5 then (bif Nat.blt j 2 then (bif Nat.blt j 1 then ((3, 0, 0, 79, 0, 0)) else ((3, 0, 0, 80, 0, 0))) else ((1, 0, 1600, 0, 0, 0))) else (bif Nat.blt j 7 then (bif Nat.blt j 6 then ((1, 0, 1600, 0, 0, 0)) else ((1, 0, 4, 0, 0, 0))) else ((1, (-2147483648), 2147483647, 0, 0, 0)))) else (bif Nat.blt j 15 then (bif Nat.blt j 12 then (bif Nat.blt j 11 then ((3, 0, 0, 81, 0, 0)) else ((3, 0, 0, 82, 0, 0))) else (bif Nat.blt j 13 then ((3, 0, 0, 83, 0, 0)) else (bif Nat.blt j 14 then ((3, 0, 0, 84, 0, 0)) else ((3, 0, 0, 85, 0, 0))))) else (bif Nat.blt j 17 then (bif Nat.blt j 16 then ((1, 0, 29999, 0, 0, 0)) else ((1, 0, 40, 0, 0, 0))) else (bif Nat.blt j 18 then ((3, 0, 0, 86, 0, 0)) else (bif Nat.blt j 19 then ((3, 0, 0, 87, 0, 0)) else ((3, 0, 0, 88, 0, 0))))))) else (bif Nat.blt j 30 then (bif Nat.blt j 25 then (bif Nat.blt j 22 then (bif Nat.blt j 21 then ((3, 0, 0, 89, 0, 0)) else ((3, 0, 0, 90, 0, 0))) else (bif Nat.blt j 23 then ((3, 0, 0, 91, 0, 0)) else (bif Nat.blt j 24 then ((3, 0, 0, 92, 0, 0)) else ((3, 0, 0, 93, 0, 0))))) else (bif Nat.blt j 27 then (bif Nat.blt j 26 then ((3, 0, 0, 94, 0, 0)) else ((3, 0, 0, 95, 0, 0))) else (bif Nat.blt j 28 then ((3, 0, 0, 96, 0, 0)) else (bif Nat.blt j 29 then ((3, 0, 0, 97, 0, 0)) else ((3, 0, 0, 98, 0, 0)))))) else (bif Nat.blt j 35 then (bif Nat.blt j 32 then (bif Nat.blt j 31 then ((3, 0, 0, 99, 0, 0)) else ((3, 0, 0, 100, 0, 0))) else (bif Nat.blt j 33 then ((1, 0, 30, 0, 0, 0)) else (bif Nat.blt j 34 then ((3, 0, 0, 101, 0, 0)) else ((3, 0, 0, 102, 0, 0))))) else (bif Nat.blt j 38 then (bif Nat.blt j 36 then ((1, 0, 80, 0, 0, 0)) else (bif Nat.blt j 37 then ((1, 0, 60, 0, 0, 0)) else ((3, 0, 0, 103, 0, 0)))) else (bif Nat.blt j 39 then ((3, 0, 0, 104, 0, 0)) else (bif Nat.blt j 40 then ((3, 0, 0, 105, 0, 0)) else ((3, 0, 0, 106, 0, 0)))))))) else (bif Nat.blt j 61 then (bif Nat.blt j 51 then (bif Nat.blt j 46 then (bif Nat.blt j 43 then (bif Nat.blt j 42 then ((3, 0, 0, 107, 0, 0)) else ((3, 0, 0, 108, 0, 0))) else (bif Nat.blt j 44 then ((3, 0, 0, 109, 0, 0)) else (bif Nat.blt j 45 then ((3, 0, 0, 110, 0, 0)) else ((3, 0, 0, 111, 0, 0))))) else (bif Nat.blt j 48 then (bif Nat.blt j 47 then ((3, 0, 0, 112, 0, 0)) else ((3, 0, 0, 113, 0, 0))) else (bif Nat.blt j 49 then ((3, 0, 0, 114, 0, 0)) else (bif Nat.blt j 50 then ((3, 0, 0, 115, 0, 0)) else ((3, 0, 0, 116, 0, 0)))))) else (bif Nat.blt j 56 then (bif Nat.blt j 53 then ((1, (-2147483648), 2147483647, 0, 0, 0)) else (bif Nat.blt j 54 then ((1, 0, 14, 0, 0, 0)) else (bif Nat.blt j 55 then ((1, (-2147483648), 2147483647, 0, 0, 0)) else ((1, 0, 14, 0, 0, 0))))) else (bif Nat.blt j 58 then (bif Nat.blt j 57 then ((3, 0, 0, 117, 0, 0)) else ((3, 0, 0, 118, 0, 0))) else (bif Nat.blt j 59 then ((3, 0, 0, 119, 0, 0)) else (bif Nat.blt j 60 then ((3, 0, 0, 120, 0, 0)) else ((3, 0, 0, 121, 0, 0))))))) else (bif Nat.blt j 71 then (bif Nat.blt j 66 then (bif Nat.blt j 63 then (bif Nat.blt j 62 then ((3, 0, 0, 122, 0, 0)) else ((1, (-2147483648), 2147483647, 0, 0, 0))) else (bif Nat.blt j 64 then ((1, (-2147483648), 2147483647, 0, 0, 0)) else (bif Nat.blt j 65 then ((1, (-2147483648), 2147483647, 0, 0, 0)) else ((3, 0, 0, 123, 0, 0))))) else (bif Nat.blt j 68 then (bif Nat.blt j 67 then ((3, 0, 0, 124, 0, 0)) else ((3, 0, 0, 125, 0, 0))) else ((1, (-2147483648), 2147483647, 0, 0, 0)))) else (bif Nat.blt j 76 then (bif Nat.blt j 73 then ((1, (-2147483648), 2147483647, 0, 0, 0)) else (bif Nat.blt j 74 then ((1, (-2147483648), 2147483647, 0, 0, 0)) else (bif Nat.blt j 75 then ((1, (-2147483648), 2147483647, 0, 0, 0)) else ((1, 0, 1, 0, 0, 0))))) else (bif Nat.blt j 79 then (bif Nat.blt j 77 then ((3, 0, 0, 126, 0, 0)) else (bif Nat.blt j 78 then ((3, 0, 0, 127, 0, 0)) else ((3, 0, 0, 128, 0, 0)))) else (bif Nat.blt j 80 then ((3, 0, 0, 129, 0, 0)) else (bif Nat.blt j 81 then ((1, 0, 14, 0, 0, 0)) else ((1, (-2147483648), 2147483647, 0, 0, 0))))))))))))
def cq_ob (c j : Nat) : cq_T := bif Nat.beq c 54 && Nat.blt j 3 then (3, 0, 0, 55 + j, 0, 0) else cq_cl (cq_fix c).2.1 j
def cq_ar (c : Nat) : cq_T := bif Nat.blt c 85 then (bif Nat.blt c 62 then (bif Nat.blt c 51 then (bif Nat.blt c 45 then (bif Nat.blt c 42 then ((0, 0, 0, 0, 0, 0)) else (bif Nat.blt c 43 then ((1, (-128), 127, 0, 0, 0)) else (bif Nat.blt c 44 then ((0, 0, 0, 0, 0, 0)) else ((1, (-2147483648), 2147483647, 0, 0, 0))))) else (bif Nat.blt c 48 then ((1, (-2147483648), 2147483647, 0, 0, 0)) else (bif Nat.blt c 49 then ((0, 0, 0, 0, 0, 0)) else (bif Nat.blt c 50 then ((11, 0, 0, 4, 48, 1)) else ((1, (-2147483648), 2147483647, 0, 0, 0)))))) else (bif Nat.blt c 56 then (bif Nat.blt c 53 then ((1, (-2147483648), 2147483647, 0, 0, 0)) else (bif Nat.blt c 54 then ((0, 0, 0, 0, 0, 0)) else (bif Nat.blt c 55 then ((0, 0, 0, 0, 0, 0)) else ((2, 0, 0, 0, 0, 0))))) else (bif Nat.blt c 59 then (bif Nat.blt c 57 then ((1, 0, 240, 0, 0, 0)) else (bif Nat.blt c 58 then ((1, (-2147483648), 2147483647, 0, 0, 0)) else ((10, 0, 31, 0, 0, 0)))) else ((1, (-2147483648), 2147483647, 0, 0, 0))))) else (bif Nat.blt c 73 then (bif Nat.blt c 67 then (bif Nat.blt c 64 then (bif Nat.blt c 63 then ((1, (-2147483648), 2147483647, 0, 0, 0)) else ((0, 0, 0, 0, 0, 0))) else (bif Nat.blt c 65 then ((1, (-2147483648), 2147483647, 0, 0, 0)) else (bif Nat.blt c 66 then ((1, (-2147483648), 2147483647, 0, 0, 0)) else ((5, 0, 0, 1, 0, 0))))) else (bif Nat.blt c 70 then (bif Nat.blt c 68 then ((0, 0, 0, 0, 0, 0)) else ((9, 0, 13, 0, 0, 0))) else (bif Nat.blt c 71 then ((1, (-2147483648), 2147483647, 0, 0, 0)) else (bif Nat.blt c 72 then ((1, (-2147483648), 2147483647, 0, 0, 0)) else ((0, 0, 0, 0, 0, 0)))))) else (bif Nat.blt c 79 then (bif Nat.blt c 76 then (bif Nat.blt c 74 then ((5, 0, 0, 6, 0, 0)) else (bif Nat.blt c 75 then ((11, 0, 0, 1, 40, 13)) else ((9, 0, 13, 0, 0, 0)))) else (bif Nat.blt c 77 then ((1, (-2147483648), 2147483647, 0, 0, 0)) else (bif Nat.blt c 78 then ((1, (-2147483648), 2147483647, 0, 0, 0)) else ((0, 0, 0, 0, 0, 0))))) else (bif Nat.blt c 82 then (bif Nat.blt c 80 then ((0, 0, 0, 0, 0, 0)) else (bif Nat.blt c 81 then ((1, (-128), 127, 0, 0, 0)) else ((1, (-2147483648), 2147483647, 0, 0, 0)))) else ((1, (-2147483648), 2147483647, 0, 0, 0)))))) else (bif Nat.blt c 107 then (bif Nat.blt c 96 then (bif Nat.blt c 90 then (bif Nat.blt c 87 then (bif Nat.blt c 86 then ((1, 0, 1, 0, 0, 0)) else ((1, 0, 19, 0, 0, 0))) else ((1, (-2147483648), 2147483647, 0, 0, 0))) else (bif Nat.blt c 93 then (bif Nat.blt c 91 then ((1, (-1), 19, 0, 0, 0)) else (bif Nat.blt c 92 then ((1, (-2147483648), 2147483647, 0, 0, 0)) else ((1, 0, 3, 0, 0, 0)))) else (bif Nat.blt c 94 then ((1, 0, 30, 0, 0, 0)) else (bif Nat.blt c 95 then ((1, 0, 8, 0, 0, 0)) else ((2, 0, 0, 0, 0, 0)))))) else (bif Nat.blt c 101 then (bif Nat.blt c 98 then ((1, 0, 1, 0, 0, 0)) else (bif Nat.blt c 99 then ((1, 0, 1000000000, 0, 0, 0)) else ((1, (-2147483648), 2147483647, 0, 0, 0)))) else ((1, (-2147483648), 2147483647, 0, 0, 0)))) else (bif Nat.blt c 118 then (bif Nat.blt c 112 then (bif Nat.blt c 109 then ((1, (-2147483648), 2147483647, 0, 0, 0)) else (bif Nat.blt c 110 then ((1, (-1), 2, 0, 0, 0)) else ((1, (-2147483648), 2147483647, 0, 0, 0)))) else (bif Nat.blt c 115 then ((1, (-2147483648), 2147483647, 0, 0, 0)) else (bif Nat.blt c 116 then ((1, (-2147483648), 2147483647, 0, 0, 0)) else (bif Nat.blt c 117 then ((1, (-2147483648), 2147483647, 0, 0, 0)) else ((1, 0, 39, 0, 0, 0)))))) else (bif Nat.blt c 124 then (bif Nat.blt c 121 then (bif Nat.blt c 119 then ((1, 0, 13, 0, 0, 0)) else (bif Nat.blt c 120 then ((1, 0, 1, 0, 0, 0)) else ((1, (-2147483648), 2147483647, 0, 0, 0)))) else (bif Nat.blt c 122 then ((1, (-2147483648), 2147483647, 0, 0, 0)) else (bif Nat.blt c 123 then ((1, (-2147483648), 2147483647, 0, 0, 0)) else ((1, 0, 13, 0, 0, 0))))) else (bif Nat.blt c 127 then (bif Nat.blt c 125 then ((1, (-2147483648), 2147483647, 0, 0, 0)) else (bif Nat.blt c 126 then ((1, 0, 1, 0, 0, 0)) else ((1, (-2147483648), 2147483647, 0, 0, 0)))) else ((1, (-2147483648), 2147483647, 0, 0, 0))))))
def cq_sv (c j : Nat) : Int := bif Nat.blt c 4 then (bif Nat.blt c 2 then (bif Nat.blt j 3 then (bif Nat.blt j 1 then (20) else (bif Nat.blt j 2 then (8) else (2))) else (bif Nat.blt j 5 then (4) else (bif Nat.blt j 6 then (99999) else (9)))) else (bif Nat.blt c 3 then (bif Nat.blt j 3 then (bif Nat.blt j 1 then (6) else (bif Nat.blt j 2 then (2) else (0))) else (bif Nat.blt j 5 then (bif Nat.blt j 4 then (0) else (1)) else (bif Nat.blt j 6 then (0) else (1)))) else (bif Nat.blt j 3 then (bif Nat.blt j 1 then (60) else (bif Nat.blt j 2 then (32) else (4))) else (bif Nat.blt j 5 then (bif Nat.blt j 4 then (30) else (40)) else (bif Nat.blt j 6 then (99999) else (9)))))) else (bif Nat.blt c 5 then (bif Nat.blt j 3 then (bif Nat.blt j 1 then (20) else (bif Nat.blt j 2 then (8) else (2))) else (bif Nat.blt j 5 then (4) else (bif Nat.blt j 6 then (99999) else (9)))) else (bif Nat.blt c 6 then (bif Nat.blt j 3 then (bif Nat.blt j 1 then (6) else (bif Nat.blt j 2 then (2) else (0))) else (bif Nat.blt j 5 then (bif Nat.blt j 4 then (0) else (1)) else (bif Nat.blt j 6 then (0) else (1)))) else (bif Nat.blt j 3 then (bif Nat.blt j 1 then (60) else (bif Nat.blt j 2 then (32) else (4))) else (bif Nat.blt j 5 then (bif Nat.blt j 4 then (30) else (40)) else (bif Nat.blt j 6 then (99999) else (9))))))
def cq_isA (c : Nat) : Bool := Nat.beq (cq_fix c).1 1
def cq_ty (c j : Nat) : cq_T := bif cq_isA c then (bif (Nat.beq c 81 || Nat.beq c 83) && Nat.beq j 1 then (1, bif Nat.beq c 83 then 0 else 2, 32, 0, 0, 0) else cq_ar c) else cq_ob c j
def cq_at (tc : Nat) : cq_T := bif Nat.beq tc 0 then (1, -2147483648, 2147483647, 0, 0, 0) else bif Nat.beq tc 3 then (2, 0, 0, 0, 0, 0) else bif Nat.beq tc 7 then (5, 0, 0, 3, 0, 0) else (0, 0, 0, 0, 0, 0)
def cq_tyOf (c : Nat) (sh : am_Sh) (j : Nat) : cq_T := bif Nat.blt c 130 then cq_ty c j else bif Nat.beq sh.1 0 then cq_cl sh.2.1 j else cq_at sh.2.1
/-- every place but those of one cell has a value of its type -/
def cq_Inv (x : Option Nat) (h : am_H) : Prop := 130 ≤ h.1 ∧ (∀ c, 40 ≤ c → c < 130 → h.2.2.1 c = cq_fix c)
  ∧ (∀ c, 1 ≤ c → c < 7 → h.2.2.1 c = (2, 0, 7) ∧ ∀ j, j < 7 → h.2.2.2 c j = .int (Int32.ofInt (cq_sv c j)))
  ∧ ((h.2.2.1 0).1 = 2 ∧ (h.2.2.1 0).2.1 = 0 ∧ (h.2.2.1 0).2.2 ≤ 100000 ∧ ∀ j, j < (h.2.2.1 0).2.2 → ∃ v : Int32, h.2.2.2 0 j = .int v)
  ∧ (∀ c, 130 ≤ c → c < h.1 → (∃ k, h.2.2.1 c = (0, k, am_N k)) ∨ ((h.2.2.1 c).1 = 1 ∧ (h.2.2.1 c).2.2 ≤ 100000))
  ∧ (∀ c, 40 ≤ c → c < h.1 → some c ≠ x → ∀ j, j < (h.2.2.1 c).2.2 → cq_ht h j (cq_tyOf c (h.2.2.1 c) j) (h.2.2.2 c j))
  ∧ (∀ t, t < 120 → (1 ≤ cq_n h 93 t → h.2.2.2 96 (30 * t) = .int 1) ∧ (((t % 3 : Nat) : Int) < cq_n h 92 (t / 3) → 1 ≤ cq_n h 93 t))
section CQI
variable {x : Option Nat} {h : am_H} (I : cq_Inv x h)
theorem cq_Inv.lo (I : cq_Inv x h) : 130 ≤ h.1 := I.1
theorem cq_Inv.fx (I : cq_Inv x h) : ∀ c, 40 ≤ c → c < 130 → h.2.2.1 c = cq_fix c := I.2.1
theorem cq_Inv.sv (I : cq_Inv x h) : ∀ c, 1 ≤ c → c < 7 → h.2.2.1 c = (2, 0, 7) ∧ ∀ j, j < 7 → h.2.2.2 c j = .int (Int32.ofInt (cq_sv c j)) := I.2.2.1
theorem cq_Inv.sc (I : cq_Inv x h) : (h.2.2.1 0).1 = 2 ∧ (h.2.2.1 0).2.1 = 0 ∧ (h.2.2.1 0).2.2 ≤ 100000 ∧ ∀ j, j < (h.2.2.1 0).2.2 → ∃ v : Int32, h.2.2.2 0 j = .int v := I.2.2.2.1
theorem cq_Inv.dy (I : cq_Inv x h) : ∀ c, 130 ≤ c → c < h.1 → (∃ k, h.2.2.1 c = (0, k, am_N k)) ∨ ((h.2.2.1 c).1 = 1 ∧ (h.2.2.1 c).2.2 ≤ 100000) := I.2.2.2.2.1
theorem cq_Inv.ty (I : cq_Inv x h) : ∀ c, 40 ≤ c → c < h.1 → some c ≠ x → ∀ j, j < (h.2.2.1 c).2.2 → cq_ht h j (cq_tyOf c (h.2.2.1 c) j) (h.2.2.2 c j) := I.2.2.2.2.2.1
theorem cq_Inv.sx (I : cq_Inv x h) : ∀ t, t < 120 → (1 ≤ cq_n h 93 t → h.2.2.2 96 (30 * t) = .int 1) ∧ (((t % 3 : Nat) : Int) < cq_n h 92 (t / 3) → 1 ≤ cq_n h 93 t) := I.2.2.2.2.2.2
theorem cq_Inv.s4 (I : cq_Inv x h) : ∀ t, t < 120 → 1 ≤ cq_n h 93 t → h.2.2.2 96 (30 * t) = .int 1 := fun t q => (I.sx t q).1
theorem cq_Inv.s5 (I : cq_Inv x h) : ∀ t, t < 120 → ((t % 3 : Nat) : Int) < cq_n h 92 (t / 3) → 1 ≤ cq_n h 93 t := fun t q => (I.sx t q).2
end CQI
/-- what may be written: a fixed cell's place (false, cell, place + 1 or 0), a kind's (true, 0 or 1, number or code, place + 1 or 0) -/
abbrev cq_W : Type := List (Bool × Nat × Nat × Nat)
def cq_inW (m : cq_W) (c : Nat) (sh : am_Sh) (j : Nat) : Bool := m.any fun w => bif w.1 then Nat.ble 130 c && Nat.beq w.2.1 sh.1 && Nat.beq w.2.2.1 sh.2.1 && (Nat.beq w.2.2.2 0 || Nat.beq w.2.2.2 (j + 1)) else Nat.beq w.2.1 c && (Nat.beq w.2.2.1 0 || Nat.beq w.2.2.1 (j + 1))
def cq_Fr (m : cq_W) (h0 h : am_H) : Prop := h0.1 ≤ h.1 ∧ (∀ c, c < h0.1 → h.2.2.1 c = h0.2.2.1 c) ∧ (∀ c, c < h0.1 → ∀ j, cq_inW m c (h0.2.2.1 c) j = false → h.2.2.2 c j = h0.2.2.2 c j)
theorem cq_Fr.nx {m : cq_W} {h0 h : am_H} (F : cq_Fr m h0 h) : h0.1 ≤ h.1 := F.1
theorem cq_Fr.sh {m : cq_W} {h0 h : am_H} (F : cq_Fr m h0 h) : ∀ c, c < h0.1 → h.2.2.1 c = h0.2.2.1 c := F.2.1
theorem cq_Fr.vl {m : cq_W} {h0 h : am_H} (F : cq_Fr m h0 h) : ∀ c, c < h0.1 → ∀ j, cq_inW m c (h0.2.2.1 c) j = false → h.2.2.2 c j = h0.2.2.2 c j := F.2.2
abbrev cq_C : Type := Bool × Nat
def cq_ce (ρ : Nat → Int) (c : cq_C) : Nat := bif c.1 then (ρ c.2).toNat else c.2
/-- a store: next symbol, bounds and facts, what is null and what not, kinds, cells newly made, known places, known lengths, known ands, the cell under making, cells and places made -/
def cq_S : Type := Nat × cq_P × List (Nat × Bool) × List (Nat × cq_Kd) × List Nat × List (cq_C × cq_F × cq_A) × List (cq_C × cq_F) × List (cq_F × cq_F × cq_F) × Option (Nat × Nat) × Nat × Nat
def cq_mk (n : Nat) (P : cq_P) (N : List (Nat × Bool)) (K : List (Nat × cq_Kd)) (W : List Nat) (T : List (cq_C × cq_F × cq_A)) (L : List (cq_C × cq_F)) (M : List (cq_F × cq_F × cq_F)) (U : Option (Nat × Nat)) (ac al : Nat) : cq_S := (n, P, N, K, W, T, L, M, U, ac, al)
def cq_S.n (S : cq_S) : Nat := S.1
def cq_S.P (S : cq_S) : cq_P := S.2.1
def cq_S.N (S : cq_S) : List (Nat × Bool) := S.2.2.1
def cq_S.K (S : cq_S) : List (Nat × cq_Kd) := S.2.2.2.1
def cq_S.W (S : cq_S) : List Nat := S.2.2.2.2.1
def cq_S.T (S : cq_S) : List (cq_C × cq_F × cq_A) := S.2.2.2.2.2.1
def cq_S.L (S : cq_S) : List (cq_C × cq_F) := S.2.2.2.2.2.2.1
def cq_S.M (S : cq_S) : List (cq_F × cq_F × cq_F) := S.2.2.2.2.2.2.2.1
def cq_S.U (S : cq_S) : Option (Nat × Nat) := S.2.2.2.2.2.2.2.2.1
def cq_S.ac (S : cq_S) : Nat := S.2.2.2.2.2.2.2.2.2.1
def cq_S.al (S : cq_S) : Nat := S.2.2.2.2.2.2.2.2.2.2
def cq_S.sP (S : cq_S) (P : cq_P) : cq_S := cq_mk S.n P S.N S.K S.W S.T S.L S.M S.U S.ac S.al
def cq_S.sN (S : cq_S) (N : List (Nat × Bool)) : cq_S := cq_mk S.n S.P N S.K S.W S.T S.L S.M S.U S.ac S.al
def cq_S.sT (S : cq_S) (T : List (cq_C × cq_F × cq_A)) : cq_S := cq_mk S.n S.P S.N S.K S.W T S.L S.M S.U S.ac S.al
/-- the length of an array or a text -/
def cq_len (h : am_H) (c : Nat) : Nat := bif Nat.ble 7 c && Nat.blt c 23 then am_slen (c - 7) else (h.2.2.1 c).2.2
/-- what a method of the reference answers on a heap -/
noncomputable def cq_An (h : am_H) (y : Nat) (as : List Value) : Int := (Classical.epsilon fun r : Int32 => ∃ h', am_ev 60 y 0 (am_ent as (am_in y).2.2.1) [] h (some (.int r), h')).toInt
/-- arguments out of one number -/
def cq_dg : Nat → Int → List Value
  | 0, _ => []
  | n + 1, x => .int (Int32.ofInt (x % 65536)) :: cq_dg n (x / 65536)
noncomputable def cq_U0 (h : am_H) (k : Nat) (x : Int) : Int := bif Nat.blt k 1000 then cq_An h k (.ref 78 :: cq_dg ((am_in k).2.1 - 1) x) else cq_n h (k - 1000) x.toNat
/-- a poem that may be printed, and one that every place of the row has -/
def cq_AL (h : am_H) (p : Int) : Prop := 0 ≤ cq_U0 h 230 p ∧ 0 ≤ cq_U0 h 231 p + cq_U0 h 222 (p + 65536 * cq_n h 78 15)
def cq_RW (h : am_H) : Prop := ∀ i : Nat, (i : Int) < cq_n h 78 55 → cq_AL h (cq_n h 117 (cq_n h 118 i).toNat)
/-- what is asked of a heap by number: below 1000 a method's answer, from 1000 on what stands in a cell, from 2000 on whether the row may be printed -/
noncomputable def cq_U (h : am_H) (k : Nat) (x : Int) : Int := bif Nat.blt k 2000 then cq_U0 h k x else (Classical.epsilon fun r : Int32 => (r = 1 ∧ cq_RW h) ∨ (r = 0 ∧ ¬ cq_RW h)).toInt
def cq_okT (k : Nat) : Bool := Nat.beq k 220 || Nat.beq k 222 || Nat.beq k 230 || Nat.beq k 231 || Nat.beq k 199 || Nat.beq k 1092 || Nat.beq k 1093 || Nat.beq k 1096 || Nat.beq k 2000
/-- an and, or what is asked of the heap at the start -/
def cq_mOk (h0 : am_H) (ρ : Nat → Int) (e : cq_F × cq_F × cq_F) : Prop := (∀ x y : Int32, x.toInt = cq_e ρ e.1 → y.toInt = cq_e ρ e.2.1 → (x &&& y).toInt = cq_e ρ e.2.2) ∧ (∀ k : Nat, e.2.1 = ((1000000000000 : Int) + (k : Int), []) → cq_e ρ e.2.2 = cq_U h0 k (cq_e ρ e.1))
theorem cq_U_rng (h : am_H) (k : Nat) (x : Int) : -2147483648 ≤ cq_U h k x ∧ cq_U h k x ≤ 2147483647 := by
  have r32 : ∀ a : Int32, -2147483648 ≤ a.toInt ∧ a.toInt ≤ 2147483647 := fun a => by
    have b1 := a.le_toInt
    have b2 := a.toInt_lt
    exact ⟨by omega, by omega⟩
  unfold cq_U
  cases Nat.blt k 2000 with
  | false => exact r32 _
  | true =>
    show -2147483648 ≤ cq_U0 h k x ∧ cq_U0 h k x ≤ 2147483647
    unfold cq_U0
    cases Nat.blt k 1000 with
    | true => exact r32 _
    | false =>
      show -2147483648 ≤ cq_n h (k - 1000) x.toNat ∧ cq_n h (k - 1000) x.toNat ≤ 2147483647
      unfold cq_n
      split
      · exact r32 _
      · omega
def cq_Md (m : cq_W) (h0 : am_H) (ρ : Nat → Int) (S : cq_S) (h : am_H) : Prop := cq_pOk ρ S.P
  ∧ (∀ e ∈ S.N, (e.2 = true → 0 ≤ ρ e.1) ∧ (e.2 = false → ρ e.1 < 0))
  ∧ (∀ e ∈ S.K, 0 ≤ ρ e.1 → cq_kOk h (ρ e.1).toNat e.2)
  ∧ (∀ s ∈ S.W, s < S.n ∧ (h0.1 : Int) ≤ ρ s ∧ ∀ e ∈ S.K, e.1 < s → ρ e.1 < ρ s)
  ∧ (∀ e ∈ S.T, cq_g ρ e.2.2 (h.2.2.2 (cq_ce ρ e.1) (cq_e ρ e.2.1).toNat))
  ∧ (∀ e ∈ S.L, cq_e ρ e.2 = cq_len h (cq_ce ρ e.1))
  ∧ (∀ e ∈ S.M, cq_mOk h0 ρ e)
  ∧ cq_Inv (S.U.map fun q => (ρ q.1).toNat) h
  ∧ cq_Fr m h0 h
  ∧ (h.1 ≤ h0.1 + S.ac ∧ h.2.1 ≤ h0.2.1 + S.al)
  ∧ (∀ q, S.U = some q → 130 ≤ ρ q.1 ∧ (h0.1 : Int) ≤ ρ q.1)
section CQM
variable {m : cq_W} {h0 : am_H} {ρ : Nat → Int} {S : cq_S} {h : am_H}
theorem cq_Md.P (D : cq_Md m h0 ρ S h) : cq_pOk ρ S.P := D.1
theorem cq_Md.N (D : cq_Md m h0 ρ S h) : ∀ e ∈ S.N, (e.2 = true → 0 ≤ ρ e.1) ∧ (e.2 = false → ρ e.1 < 0) := D.2.1
theorem cq_Md.K (D : cq_Md m h0 ρ S h) : ∀ e ∈ S.K, 0 ≤ ρ e.1 → cq_kOk h (ρ e.1).toNat e.2 := D.2.2.1
theorem cq_Md.W (D : cq_Md m h0 ρ S h) : ∀ s ∈ S.W, s < S.n ∧ (h0.1 : Int) ≤ ρ s ∧ ∀ e ∈ S.K, e.1 < s → ρ e.1 < ρ s := D.2.2.2.1
theorem cq_Md.T (D : cq_Md m h0 ρ S h) : ∀ e ∈ S.T, cq_g ρ e.2.2 (h.2.2.2 (cq_ce ρ e.1) (cq_e ρ e.2.1).toNat) := D.2.2.2.2.1
theorem cq_Md.L (D : cq_Md m h0 ρ S h) : ∀ e ∈ S.L, cq_e ρ e.2 = cq_len h (cq_ce ρ e.1) := D.2.2.2.2.2.1
theorem cq_Md.M (D : cq_Md m h0 ρ S h) : ∀ e ∈ S.M, cq_mOk h0 ρ e := D.2.2.2.2.2.2.1
theorem cq_Md.I (D : cq_Md m h0 ρ S h) : cq_Inv (S.U.map fun q => (ρ q.1).toNat) h := D.2.2.2.2.2.2.2.1
theorem cq_Md.F (D : cq_Md m h0 ρ S h) : cq_Fr m h0 h := D.2.2.2.2.2.2.2.2.1
theorem cq_Md.A (D : cq_Md m h0 ρ S h) : h.1 ≤ h0.1 + S.ac ∧ h.2.1 ≤ h0.2.1 + S.al := D.2.2.2.2.2.2.2.2.2.1
theorem cq_Md.U (D : cq_Md m h0 ρ S h) : ∀ q, S.U = some q → 130 ≤ ρ q.1 ∧ (h0.1 : Int) ≤ ρ q.1 := D.2.2.2.2.2.2.2.2.2.2
theorem cq_Md.sP (D : cq_Md m h0 ρ S h) {P : cq_P} (hP : cq_pOk ρ P) : cq_Md m h0 ρ (S.sP P) h := ⟨hP, D.2⟩
theorem cq_Md.sN (D : cq_Md m h0 ρ S h) {N : List (Nat × Bool)} (hN : ∀ e ∈ N, (e.2 = true → 0 ≤ ρ e.1) ∧ (e.2 = false → ρ e.1 < 0)) : cq_Md m h0 ρ (S.sN N) h := ⟨D.1, hN, D.2.2⟩
theorem cq_Md.sT (D : cq_Md m h0 ρ S h) {T : List (cq_C × cq_F × cq_A)} (hT : ∀ e ∈ T, cq_g ρ e.2.2 (h.2.2.2 (cq_ce ρ e.1) (cq_e ρ e.2.1).toNat)) : cq_Md m h0 ρ (S.sT T) h := ⟨D.1, D.2.1, D.2.2.1, D.2.2.2.1, hT, D.2.2.2.2.2⟩
end CQM
/-- two valuations are alike below n -/
def cq_ag (n : Nat) (ρ' ρ : Nat → Int) : Prop := ∀ s, s < n → ρ' s = ρ s
theorem cq_ag.rf {n : Nat} {ρ : Nat → Int} : cq_ag n ρ ρ := fun _ _ => rfl
theorem cq_ag.tr {n : Nat} {a b c : Nat → Int} (h1 : cq_ag n a b) (h2 : cq_ag n b c) : cq_ag n a c := fun s hs => (h1 s hs).trans (h2 s hs)
theorem cq_ag.lt {n k : Nat} {a b : Nat → Int} (h : cq_ag n a b) (hk : k ≤ n) : cq_ag k a b := fun s hs => h s (Nat.lt_of_lt_of_le hs hk)
/-- a valuation with one symbol more -/
def cq_up (ρ : Nat → Int) (n : Nat) (w : Int) : Nat → Int := fun s => if s = n then w else ρ s
theorem cq_up_s {ρ ρ' : Nat → Int} {n : Nat} {w : Int} (h : cq_ag (n + 1) ρ' (cq_up ρ n w)) : ρ' n = w := by
  rw [h n (Nat.lt_succ_self n)]
  exact if_pos rfl
theorem cq_up_a {ρ ρ' : Nat → Int} {n : Nat} {w : Int} (h : cq_ag (n + 1) ρ' (cq_up ρ n w)) : cq_ag n ρ' ρ := fun s hs => by
  rw [h s (Nat.lt_succ_of_lt hs)]
  exact if_neg (Nat.ne_of_lt hs)
theorem cq_up_g {ρ : Nat → Int} {n : Nat} {w : Int} : cq_ag n (cq_up ρ n w) ρ := fun _ hs => if_neg (Nat.ne_of_lt hs)
