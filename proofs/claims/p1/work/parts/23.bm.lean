/-! THE ROUGH MACHINE: the plain machine over rough values, all of it data. A value stands for itself, but .retAddr n for: 1 .. 999: the script's int n - 1; 1000: some int; 1001: one that isn't below 0; 1002: one that isn't above 0; from 2000 on: the script's int n - 2000 as a long. The surroundings: the script's length, what its first int leaves under 63, bounds of its ints -/
abbrev bm_G : Type := Nat × Int32 × List (Int × Int)
abbrev bm_H : Type := Nat × Nat × List (Nat × am_Sh) × List (Nat × Nat × Value)
abbrev bm_A : Type := Option (Nat × List Value × List Value × bm_H)
noncomputable def bm_lk (lg : List (Nat × Nat × Value)) (k j : Nat) : Option Value := List.rec none (fun e _ ih => bif Nat.beq e.1 k && Nat.beq e.2.1 j then some e.2.2 else ih) lg
noncomputable def bm_ls (lg : List (Nat × am_Sh)) (k : Nat) : Option am_Sh := List.rec none (fun e _ ih => bif Nat.beq e.1 k then some e.2 else ih) lg
noncomputable def bm_sh (G : bm_G) (b : bm_H) (k : Nat) : am_Sh := match bm_ls b.2.2.1 k with
  | some s => s
  | none => am_sh0 G.1 k
def bm_sc (G : bm_G) (j : Nat) : Value := match G.2.2[j]? with
  | some q => if q.1 = q.2 then .int (Int32.ofInt q.1) else .retAddr (j + 1)
  | none => .retAddr (j + 1)
def bm_dv (G : bm_G) (k : Nat) (sh : am_Sh) (j : Nat) : Value := bif Nat.beq sh.1 0 then defaultValue (am_ty sh.2.1 j) else bif Nat.beq sh.1 1 then am_dv sh.2.1 else bif Nat.beq k 0 then (bif Nat.blt j 6 then bm_sc G j else .retAddr 1000) else .int (am_sv k j)
noncomputable def bm_get (G : bm_G) (b : bm_H) (k j : Nat) : Value := match bm_lk b.2.2.2 k j with
  | some v => v
  | none => bm_dv G k (bm_sh G b k) j
def bm_put (b : bm_H) (k j : Nat) (v : Value) : bm_H := (b.1, b.2.1, b.2.2.1, (k, j, v) :: b.2.2.2)
def bm_mk (b : bm_H) (sh : am_Sh) (N : Nat) : bm_H := (b.1 + 1, b.2.1 + N, (b.1, sh) :: b.2.2.1, b.2.2.2)
def bm_iv (G : bm_G) (a : Value) : Option (Int × Int) := match a with
  | .int c => some (c.toInt, c.toInt)
  | .retAddr n => bif Nat.beq n 0 then none else bif Nat.blt n 1000 then (match G.2.2[n - 1]? with
      | some q => some q
      | none => some (-2147483648, 2147483647)) else bif Nat.beq n 1000 then some (-2147483648, 2147483647) else bif Nat.beq n 1001 then some (0, 2147483647) else bif Nat.beq n 1002 then some (-2147483648, 0) else none
  | _ => none
def bm_il (G : bm_G) (a : Value) : Option (Int × Int) := match a with
  | .long c => some (c.toInt, c.toInt)
  | .retAddr n => bif Nat.blt n 2000 then none else (match G.2.2[n - 2000]? with
      | some q => some q
      | none => some (-2147483648, 2147483647))
  | _ => none
def bm_I (G : bm_G) (a : Value) : Bool := (bm_iv G a).isSome
def bm_cat (a : Value) : Nat := match a with
  | .retAddr n => bif Nat.blt n 1003 then 1 else 2
  | a => a.category
def bm_c (a : Value) : Option Int32 := match a with
  | .int x => some x
  | _ => none
def bm_bi (G : bm_G) (f : Int32 → Int32 → Int32) (a b : Value) : Option Value := bif bm_I G a && bm_I G b then (match bm_c a, bm_c b with
  | some x, some y => some (.int (f x y))
  | _, _ => some (.retAddr 1000)) else none
def bm_add (G : bm_G) (a b : Value) : Option Value := bif bm_I G a && bm_I G b then (match bm_c a, bm_c b with
  | some x, some y => some (.int (x + y))
  | some x, none => some (if x = 0 then b else .retAddr 1000)
  | none, _ => some (.retAddr 1000)) else none
def bm_and (G : bm_G) (a b : Value) : Option Value := bif bm_I G a && bm_I G b then (match bm_c a, bm_c b with
  | some x, some y => some (.int (x &&& y))
  | none, some y => some (if y = -1 then a else if y = 63 ∧ a = .retAddr 1 ∧ G.2.1 ≠ -1 then .int G.2.1 else .retAddr 1000)
  | _, none => some (.retAddr 1000)) else none
def bm_lt (a b : Int × Int) : Option Bool := if a.2 < b.1 then some true else if b.2 ≤ a.1 then some false else none
def bm_eq (a b : Int × Int) : Option Bool := if a.1 = a.2 ∧ b.1 = b.2 ∧ a.1 = b.1 then some true else if a.2 < b.1 ∨ b.2 < a.1 then some false else none
def bm_same (a b : Value) : Bool := match a, b with
  | .retAddr n, .retAddr m => Nat.beq n m && Nat.blt 0 n && Nat.blt n 1000
  | _, _ => false
def bm_br (G : bm_G) (c : ClassFile.Cond) (a b : Value) : Option Bool := match bm_iv G a, bm_iv G b with
  | some p, some q => (match c with
    | .eq => bif bm_same a b then some true else bm_eq p q
    | .ne => bif bm_same a b then some false else (bm_eq p q).map not
    | .lt => bm_lt p q
    | .ge => (bm_lt p q).map not
    | .gt => bm_lt q p
    | .le => (bm_lt q p).map not)
  | _, _ => none
def bm_lc (G : bm_G) (a b : Value) : Option Value := match bm_il G a, bm_il G b with
  | some p, some q => if p.2 < q.1 then some (.int (-1)) else if q.2 < p.1 then some (.int 1) else if p.1 = p.2 ∧ q.1 = q.2 ∧ p.1 = q.1 then some (.int 0) else if q.2 ≤ p.1 then some (.retAddr 1001) else if p.2 ≤ q.1 then some (.retAddr 1002) else none
  | _, _ => none
def bm_kill (ls : List Value) (i : Nat) : List Value := match i with
  | 0 => ls
  | j + 1 => (match ls[j]? with
    | some v => bif Nat.beq (bm_cat v) 2 then ls.set j am_ph else ls
    | none => ls)
def bm_set1 (ls : List Value) (i : Nat) (v : Value) : List Value := (bm_kill ls i).set i v
def bm_fok (G : bm_G) (ty : FieldType) (v : Value) : Bool := match ty with
  | .int => bm_I G v
  | ty => am_fok ty v
noncomputable def bm_isO (G : bm_G) (b : bm_H) (a ci : Nat) : Bool := Nat.blt a b.1 && Nat.beq (bm_sh G b a).1 0 && Nat.beq (bm_sh G b a).2.1 ci
noncomputable def bm_rd (G : bm_G) (b : bm_H) (a : Nat) (i : Int32) (ok : Nat → Bool) : Option Value :=
  bif Nat.blt a b.1 && (Nat.beq (bm_sh G b a).1 1 || Nat.beq (bm_sh G b a).1 2) && ok (bm_sh G b a).2.1 then
    (if i < 0 ∨ (bm_sh G b a).2.2 ≤ i.toNatClampNeg then none else some (bm_get G b a i.toNatClampNeg))
  else none
noncomputable def bm_wr (G : bm_G) (b : bm_H) (a : Nat) (i : Int32) (tc : Nat) (v : Value) : Option bm_H :=
  bif Nat.blt a b.1 && Nat.beq (bm_sh G b a).1 1 && Nat.beq (bm_sh G b a).2.1 tc then
    (if i < 0 ∨ (bm_sh G b a).2.2 ≤ i.toNatClampNeg then none else some (bm_put b a i.toNatClampNeg v))
  else none
/-- the rough values -/
def bm_rel (ρ : Nat → Int32) (a v : Value) : Prop := match a with
  | .retAddr n => if n = 0 then v = .retAddr 0 else if n < 1000 then v = .int (ρ (n - 1)) else if n = 1000 then ∃ x, v = .int x else if n = 1001 then ∃ x : Int32, v = .int x ∧ 0 ≤ x.toInt else if n = 1002 then ∃ x : Int32, v = .int x ∧ x.toInt ≤ 0 else v = .long (ρ (n - 2000)).toInt64
  | a => v = a
def bm_ok (G : bm_G) (ρ : Nat → Int32) : Prop := (∀ i q, G.2.2[i]? = some q → q.1 ≤ (ρ i).toInt ∧ (ρ i).toInt ≤ q.2) ∧ (G.2.1 ≠ -1 → ρ 0 &&& 63 = G.2.1)
def bm_rl (ρ : Nat → Int32) : List Value → List Value → Prop
  | [], [] => True
  | a :: as, v :: vs => bm_rel ρ a v ∧ bm_rl ρ as vs
  | _, _ => False
theorem bm_rng (x : Int32) : -2147483648 ≤ x.toInt ∧ x.toInt ≤ 2147483647 := by
  have h1 := x.le_toInt
  have h2 := x.toInt_lt
  exact ⟨by omega, by omega⟩
theorem bm_rel_n {ρ : Nat → Int32} {n : Nat} {v : Value} (h : bm_rel ρ (.retAddr n) v) : (n = 0 ∧ v = .retAddr 0) ∨ (0 < n ∧ n < 1000 ∧ v = .int (ρ (n - 1))) ∨ (n = 1000 ∧ ∃ x, v = .int x) ∨ (n = 1001 ∧ ∃ x : Int32, v = .int x ∧ 0 ≤ x.toInt) ∨ (n = 1002 ∧ ∃ x : Int32, v = .int x ∧ x.toInt ≤ 0) ∨ (1002 < n ∧ v = .long (ρ (n - 2000)).toInt64) := by
  unfold bm_rel at h
  split at h
  · rename_i m e
    cases e
    split at h
    · exact Or.inl ⟨by assumption, h⟩
    · split at h
      · exact Or.inr (Or.inl ⟨by omega, by assumption, h⟩)
      · split at h
        · exact Or.inr (Or.inr (Or.inl ⟨by assumption, h⟩))
        · split at h
          · exact Or.inr (Or.inr (Or.inr (Or.inl ⟨by assumption, h⟩)))
          · split at h
            · exact Or.inr (Or.inr (Or.inr (Or.inr (Or.inl ⟨by assumption, h⟩))))
            · exact Or.inr (Or.inr (Or.inr (Or.inr (Or.inr ⟨by omega, h⟩))))
  · rename_i hx
    exact absurd rfl (hx n)
theorem bm_bF {a b : Nat} (h : a ≠ b) : Nat.beq a b = false := by
  cases hh : Nat.beq a b with
  | false => rfl
  | true => exact absurd (am_beq hh) h
theorem bm_lF {a b : Nat} (h : ¬ a < b) : Nat.blt a b = false := by
  cases hh : Nat.blt a b with
  | false => rfl
  | true => exact absurd (am_blt hh) h
theorem bm_lT {a b : Nat} (h : a < b) : Nat.blt a b = true := Nat.ble_eq.mpr h
theorem bm_int {G : bm_G} {ρ : Nat → Int32} {a v : Value} {p : Int × Int} (hG : bm_ok G ρ) (hi : bm_iv G a = some p) (hr : bm_rel ρ a v) : ∃ x : Int32, v = .int x ∧ p.1 ≤ x.toInt ∧ x.toInt ≤ p.2 := by
  cases a with
  | int c =>
    replace hi : some (c.toInt, c.toInt) = some p := hi
    cases hi
    exact ⟨c, hr, Int.le_refl _, Int.le_refl _⟩
  | retAddr n =>
    unfold bm_iv at hi
    simp only at hi
    rcases bm_rel_n hr with ⟨rfl, -⟩ | ⟨h1, h2, rfl⟩ | ⟨rfl, x, rfl⟩ | ⟨rfl, x, rfl, hx⟩ | ⟨rfl, x, rfl, hx⟩ | ⟨h1, -⟩
    · cases hi
    · rw [bm_bF (by omega), bm_lT h2] at hi
      simp only [cond_false, cond_true] at hi
      split at hi
      · rename_i q hq
        cases hi
        exact ⟨_, rfl, hG.1 _ _ hq⟩
      · cases hi
        exact ⟨_, rfl, bm_rng _⟩
    · cases hi
      exact ⟨_, rfl, bm_rng _⟩
    · cases hi
      exact ⟨_, rfl, hx, (bm_rng _).2⟩
    · cases hi
      exact ⟨_, rfl, (bm_rng _).1, hx⟩
    · rw [bm_bF (by omega), bm_lF (by omega), bm_bF (by omega), bm_bF (by omega), bm_bF (by omega)] at hi
      cases hi
  | _ => cases hi
theorem bm_I_int {G : bm_G} {ρ : Nat → Int32} {a v : Value} (hG : bm_ok G ρ) (hi : bm_I G a = true) (hr : bm_rel ρ a v) : ∃ x : Int32, v = .int x := by
  unfold bm_I at hi
  obtain ⟨p, hp⟩ := Option.isSome_iff_exists.mp hi
  obtain ⟨x, hx, -⟩ := bm_int hG hp hr
  exact ⟨x, hx⟩
theorem bm_lng {G : bm_G} {ρ : Nat → Int32} {a v : Value} {p : Int × Int} (hG : bm_ok G ρ) (hi : bm_il G a = some p) (hr : bm_rel ρ a v) : ∃ x : Int64, v = .long x ∧ p.1 ≤ x.toInt ∧ x.toInt ≤ p.2 := by
  cases a with
  | long c =>
    replace hi : some (c.toInt, c.toInt) = some p := hi
    cases hi
    exact ⟨c, hr, Int.le_refl _, Int.le_refl _⟩
  | retAddr n =>
    unfold bm_il at hi
    simp only at hi
    by_cases h : n < 2000
    · rw [bm_lT h] at hi
      cases hi
    · rw [bm_lF h] at hi
      simp only [cond_false] at hi
      rcases bm_rel_n hr with ⟨rfl, -⟩ | ⟨h1, h2, rfl⟩ | ⟨rfl, x, rfl⟩ | ⟨rfl, x, rfl, hx⟩ | ⟨rfl, x, rfl, hx⟩ | ⟨h1, rfl⟩
      · omega
      · omega
      · omega
      · omega
      · omega
      · refine ⟨_, rfl, ?_⟩
        rw [Int32.toInt_toInt64]
        split at hi
        · rename_i q hq
          cases hi
          exact hG.1 _ _ hq
        · cases hi
          exact bm_rng _
  | _ => cases hi
theorem bm_cat_eq {ρ : Nat → Int32} {a v : Value} (hr : bm_rel ρ a v) : v.category = bm_cat a := by
  cases a with
  | retAddr n =>
    unfold bm_cat
    rcases bm_rel_n hr with ⟨rfl, rfl⟩ | ⟨h1, h2, rfl⟩ | ⟨rfl, x, rfl⟩ | ⟨rfl, x, rfl, hx⟩ | ⟨rfl, x, rfl, hx⟩ | ⟨h1, rfl⟩
    · rfl
    · show 1 = (bif Nat.blt n 1003 then 1 else 2)
      rw [bm_lT (show n < 1003 by omega)]; rfl
    · rfl
    · rfl
    · rfl
    · show 2 = (bif Nat.blt n 1003 then 1 else 2)
      rw [bm_lF (show ¬ n < 1003 by omega)]; rfl
  | int c => have hr : v = .int c := hr; rw [hr]; rfl
  | long c => have hr : v = .long c := hr; rw [hr]; rfl
  | float c => have hr : v = .float c := hr; rw [hr]; rfl
  | double c => have hr : v = .double c := hr; rw [hr]; rfl
  | null => have hr : v = .null := hr; rw [hr]; rfl
  | ref c => have hr : v = .ref c := hr; rw [hr]; rfl
theorem bm_c_eq {a : Value} {x : Int32} (h : bm_c a = some x) : a = .int x := by
  cases a <;> first | (cases h; rfl) | (cases h)
theorem bm_top {ρ : Nat → Int32} (x : Int32) : bm_rel ρ (.retAddr 1000) (.int x) := ⟨x, rfl⟩
theorem bm_bi_spec {G : bm_G} {ρ : Nat → Int32} {f : Int32 → Int32 → Int32} {a b r : Value} {v w : Value} (hG : bm_ok G ρ) (h : bm_bi G f a b = some r) (ha : bm_rel ρ a v) (hb : bm_rel ρ b w) : ∃ x y, v = .int x ∧ w = .int y ∧ bm_rel ρ r (.int (f x y)) := by
  unfold bm_bi at h
  obtain ⟨h1, h9⟩ := am_cond h
  clear h
  rw [Bool.and_eq_true] at h1
  obtain ⟨x, rfl⟩ := bm_I_int hG h1.1 ha
  obtain ⟨y, rfl⟩ := bm_I_int hG h1.2 hb
  refine ⟨x, y, rfl, rfl, ?_⟩
  split at h9
  · rename_i x' y' e1 e2
    cases h9
    have e1 := bm_c_eq e1
    have e2 := bm_c_eq e2
    subst e1; subst e2
    cases ha; cases hb
    rfl
  · cases h9
    exact bm_top _
theorem bm_add_spec {G : bm_G} {ρ : Nat → Int32} {a b r : Value} {v w : Value} (hG : bm_ok G ρ) (h : bm_add G a b = some r) (ha : bm_rel ρ a v) (hb : bm_rel ρ b w) : ∃ x y, v = .int x ∧ w = .int y ∧ bm_rel ρ r (.int (x + y)) := by
  unfold bm_add at h
  obtain ⟨h1, h9⟩ := am_cond h
  clear h
  rw [Bool.and_eq_true] at h1
  obtain ⟨x, rfl⟩ := bm_I_int hG h1.1 ha
  obtain ⟨y, rfl⟩ := bm_I_int hG h1.2 hb
  refine ⟨x, y, rfl, rfl, ?_⟩
  split at h9
  · rename_i x' y' e1 e2
    cases h9
    have e1 := bm_c_eq e1
    have e2 := bm_c_eq e2
    subst e1; subst e2
    cases ha; cases hb
    rfl
  · rename_i x' e1 e2
    have e1 := bm_c_eq e1
    subst e1
    cases ha
    by_cases hx : x = 0
    · rw [if_pos hx] at h9
      cases h9
      rw [hx, Int32.zero_add]
      exact hb
    · rw [if_neg hx] at h9
      cases h9
      exact bm_top _
  · cases h9
    exact bm_top _
theorem bm_and_spec {G : bm_G} {ρ : Nat → Int32} {a b r : Value} {v w : Value} (hG : bm_ok G ρ) (h : bm_and G a b = some r) (ha : bm_rel ρ a v) (hb : bm_rel ρ b w) : ∃ x y, v = .int x ∧ w = .int y ∧ bm_rel ρ r (.int (x &&& y)) := by
  unfold bm_and at h
  obtain ⟨h1, h9⟩ := am_cond h
  clear h
  rw [Bool.and_eq_true] at h1
  obtain ⟨x, rfl⟩ := bm_I_int hG h1.1 ha
  obtain ⟨y, rfl⟩ := bm_I_int hG h1.2 hb
  refine ⟨x, y, rfl, rfl, ?_⟩
  split at h9
  · rename_i x' y' e1 e2
    cases h9
    have e1 := bm_c_eq e1
    have e2 := bm_c_eq e2
    subst e1; subst e2
    cases ha; cases hb
    rfl
  · rename_i y' e1 e2
    have e2 := bm_c_eq e2
    subst e2
    cases hb
    by_cases hy : y = -1
    · rw [if_pos hy] at h9
      cases h9
      rw [hy, Int32.and_neg_one]
      exact ha
    · rw [if_neg hy] at h9
      by_cases h63 : y = 63 ∧ a = .retAddr 1 ∧ G.2.1 ≠ -1
      · rw [if_pos h63] at h9
        cases h9
        obtain ⟨rfl, rfl, hne⟩ := h63
        rcases bm_rel_n ha with ⟨q, -⟩ | ⟨-, -, q⟩ | ⟨q, -⟩ | ⟨q, -⟩ | ⟨q, -⟩ | ⟨q, -⟩
        · omega
        · cases q
          show Value.int (ρ (1 - 1) &&& 63) = Value.int G.2.1
          rw [show (1 : Nat) - 1 = 0 from rfl, hG.2 hne]
        · omega
        · omega
        · omega
        · omega
      · rw [if_neg h63] at h9
        cases h9
        exact bm_top _
  · cases h9
    exact bm_top _
def am_cnd (c : ClassFile.Cond) (x y : Int32) : Bool := match c with
  | .eq => decide (x = y)
  | .ne => !decide (x = y)
  | .lt => decide (x < y)
  | .ge => decide (y ≤ x)
  | .gt => decide (y < x)
  | .le => decide (x ≤ y)
theorem bm_lt_spec {p q : Int × Int} {t : Bool} {x y : Int32} (h : bm_lt p q = some t) (h1 : p.1 ≤ x.toInt ∧ x.toInt ≤ p.2) (h2 : q.1 ≤ y.toInt ∧ y.toInt ≤ q.2) : decide (x < y) = t := by
  unfold bm_lt at h
  split at h
  · cases h
    exact decide_eq_true (Int32.lt_iff_toInt_lt.mpr (by omega))
  · split at h
    · cases h
      exact decide_eq_false (fun z => by have := Int32.lt_iff_toInt_lt.mp z; omega)
    · cases h
theorem bm_eq_spec {p q : Int × Int} {t : Bool} {x y : Int32} (h : bm_eq p q = some t) (h1 : p.1 ≤ x.toInt ∧ x.toInt ≤ p.2) (h2 : q.1 ≤ y.toInt ∧ y.toInt ≤ q.2) : decide (x = y) = t := by
  unfold bm_eq at h
  split at h
  · cases h
    exact decide_eq_true (Int32.toInt_inj.mp (by omega))
  · split at h
    · cases h
      exact decide_eq_false (fun z => by rw [z] at h1; omega)
    · cases h
theorem bm_same_spec {ρ : Nat → Int32} {a b v w : Value} (h : bm_same a b = true) (ha : bm_rel ρ a v) (hb : bm_rel ρ b w) : v = w := by
  cases a <;> cases b <;> first | (cases h; done) | skip
  rename_i n m
  replace h : (Nat.beq n m && Nat.blt 0 n && Nat.blt n 1000) = true := h
  simp only [Bool.and_eq_true] at h
  have e := am_beq h.1.1
  have h0 := am_blt h.1.2
  have h1 := am_blt h.2
  subst e
  rcases bm_rel_n ha with ⟨q, -⟩ | ⟨-, -, q⟩ | ⟨q, -⟩ | ⟨q, -⟩ | ⟨q, -⟩ | ⟨q, -⟩
  · omega
  · rcases bm_rel_n hb with ⟨q2, -⟩ | ⟨-, -, q2⟩ | ⟨q2, -⟩ | ⟨q2, -⟩ | ⟨q2, -⟩ | ⟨q2, -⟩
    · omega
    · rw [q, q2]
    · omega
    · omega
    · omega
    · omega
  · omega
  · omega
  · omega
  · omega
theorem bm_mapnot {o : Option Bool} {t : Bool} (h : o.map not = some t) : o = some (!t) := by
  cases o with
  | none => cases h
  | some b => cases h; simp
theorem bm_br_spec {G : bm_G} {ρ : Nat → Int32} {c : ClassFile.Cond} {a b v w : Value} {t : Bool} (hG : bm_ok G ρ) (h : bm_br G c a b = some t) (ha : bm_rel ρ a v) (hb : bm_rel ρ b w) : ∃ x y, v = .int x ∧ w = .int y ∧ am_cnd c x y = t := by
  unfold bm_br at h
  split at h
  · rename_i p q e1 e2
    obtain ⟨x, rfl, hx⟩ := bm_int hG e1 ha
    obtain ⟨y, rfl, hy⟩ := bm_int hG e2 hb
    refine ⟨x, y, rfl, rfl, ?_⟩
    cases c with
    | eq =>
      simp only at h
      cases hs : bm_same a b with
      | true =>
        rw [hs] at h
        cases h
        have := bm_same_spec hs ha hb
        cases this
        exact decide_eq_true rfl
      | false =>
        rw [hs] at h
        exact bm_eq_spec h hx hy
    | ne =>
      simp only at h
      cases hs : bm_same a b with
      | true =>
        rw [hs] at h
        cases h
        have := bm_same_spec hs ha hb
        cases this
        show (!decide (x = x)) = false
        simp
      | false =>
        rw [hs] at h
        have := bm_eq_spec (bm_mapnot h) hx hy
        show (!decide (x = y)) = t
        rw [this]
        simp
    | lt => exact bm_lt_spec h hx hy
    | ge =>
      have := bm_lt_spec (bm_mapnot h) hx hy
      show decide (y ≤ x) = t
      have e : decide (y ≤ x) = !decide (x < y) := by
        by_cases z : x < y
        · rw [decide_eq_true z]
          exact decide_eq_false (fun q => by have h1 := Int32.lt_iff_toInt_lt.mp z; have h2 := Int32.le_iff_toInt_le.mp q; omega)
        · rw [decide_eq_false z]
          exact decide_eq_true (Int32.not_lt.mp z)
      rw [e, this]
      simp
    | gt => exact bm_lt_spec h hy hx
    | le =>
      have := bm_lt_spec (bm_mapnot h) hy hx
      show decide (x ≤ y) = t
      have e : decide (x ≤ y) = !decide (y < x) := by
        by_cases z : y < x
        · rw [decide_eq_true z]
          exact decide_eq_false (fun q => by have h1 := Int32.lt_iff_toInt_lt.mp z; have h2 := Int32.le_iff_toInt_le.mp q; omega)
        · rw [decide_eq_false z]
          exact decide_eq_true (Int32.not_lt.mp z)
      rw [e, this]
      simp
  · cases h
theorem bm_lc_spec {G : bm_G} {ρ : Nat → Int32} {a b r v w : Value} (hG : bm_ok G ρ) (h : bm_lc G a b = some r) (ha : bm_rel ρ a v) (hb : bm_rel ρ b w) : ∃ x y, v = .long x ∧ w = .long y ∧ bm_rel ρ r (.int (lg_cmp x y)) := by
  unfold bm_lc at h
  split at h
  · rename_i p q e1 e2
    obtain ⟨x, rfl, hx⟩ := bm_lng hG e1 ha
    obtain ⟨y, rfl, hy⟩ := bm_lng hG e2 hb
    refine ⟨x, y, rfl, rfl, ?_⟩
    have gt : ∀ {x y : Int64}, (x > y) ↔ y.toInt < x.toInt := fun {x y} => Int64.lt_iff_toInt_lt
    unfold lg_cmp
    split at h
    · cases h
      rw [if_neg (fun z => by have := gt.mp z; omega), if_neg (fun z => by rw [z] at hx; omega)]
      rfl
    · split at h
      · cases h
        rw [if_pos (gt.mpr (by omega))]
        rfl
      · split at h
        · cases h
          rw [if_neg (fun z => by have := gt.mp z; omega), if_pos (Int64.toInt_inj.mp (by omega))]
          rfl
        split at h
        · cases h
          show ∃ z : Int32, _ ∧ _
          refine ⟨_, rfl, ?_⟩
          by_cases hg : x > y
          · rw [if_pos hg]; decide
          · rw [if_neg hg, if_pos (Int64.toInt_inj.mp (by have := mt gt.mpr hg; omega))]
            decide
        · split at h
          · cases h
            show ∃ z : Int32, _ ∧ _
            refine ⟨_, rfl, ?_⟩
            rw [if_neg (fun z => by have := gt.mp z; omega)]
            split <;> decide
          · cases h
  · cases h
