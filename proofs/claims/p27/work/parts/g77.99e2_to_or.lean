/-! ORDER: the numbers -/
def s10 (a : Nat) : Nat := a % 2 + a / 2 % 2 + a / 4 % 2 + a / 8 % 2 + a / 16 % 2 + a / 32 % 2 + a / 64 % 2 + a / 128 % 2 + a / 256 % 2 + a / 512 % 2
theorem o_sub : ∀ r : Nat, r < 1024 → ∀ j : Nat, j < 10 → r.testBit j = true → 2 ^ j ≤ r ∧ s10 (r - 2 ^ j) + 1 = s10 r := by decide +kernel
theorem o_bit : ∀ r : Nat, r < 1024 → ∀ j : Nat, j < 10 → r.testBit j = true → ∀ i : Nat, i < 10 → (r - 2 ^ j).testBit i = (r.testBit i && !Nat.beq i j) := by decide +kernel
theorem o_s0 : ∀ r : Nat, r < 1024 → s10 r = 0 → r = 0 := by decide +kernel
theorem o_s9 : ∀ r : Nat, r < 1024 → s10 r ≤ 10 := by decide +kernel
theorem o_and : ∀ r : Nat, r < 1024 → ∀ j : Nat, j < 10 → r.testBit j = true → (Int32.ofInt (r : Int) &&& ((Int32.ofInt 1 <<< (Int32.ofInt (j : Int) &&& 31)) ^^^ Int32.ofInt (-1))) = Int32.ofInt ((r - 2 ^ j : Nat) : Int) := by decide +kernel
theorem o_bt : ∀ r : Nat, r < 1024 → ∀ j : Nat, j < 10 → bt (Int32.ofInt (r : Int)) j = r.testBit j := by decide +kernel
theorem o_w : ∀ k : Nat, k < 11 → wkM k = Int32.ofInt ((2 ^ k - 1 : Nat) : Int) ∧ 2 ^ k - 1 < 1024 ∧ s10 (2 ^ k - 1) = k := by decide +kernel
theorem o_wb : ∀ k : Nat, k < 11 → ∀ j : Nat, j < 10 → (2 ^ k - 1).testBit j = decide (j < k) := by decide +kernel
/-- the least of b and what follows -/
def oS (f : Nat → Int) : Nat → Nat → Int → Int
  | 0, _, b => b
  | m + 1, j, b => oS f m (j + 1) (if f j < b then f j else b)
theorem oS_le {f : Nat → Int} : ∀ (m j : Nat) (b : Int), oS f m j b ≤ b := fun m => by
  induction m with
  | zero => intro j b; exact Int.le_refl _
  | succ m ih =>
    intro j b
    show oS f m (j + 1) (if f j < b then f j else b) ≤ b
    have h := ih (j + 1) (if f j < b then f j else b)
    by_cases z : f j < b
    · rw [if_pos z] at h ⊢
      omega
    · rw [if_neg z] at h ⊢
      exact h
theorem oS_lb {f : Nat → Int} : ∀ (m j : Nat) (b : Int) (i : Nat), j ≤ i → i < j + m → oS f m j b ≤ f i := fun m => by
  induction m with
  | zero => intro j b i x y; omega
  | succ m ih =>
    intro j b i x y
    show oS f m (j + 1) (if f j < b then f j else b) ≤ f i
    by_cases e : i = j
    · subst e
      have h := oS_le (f := f) m (i + 1) (if f i < b then f i else b)
      by_cases z : f i < b
      · rw [if_pos z] at h ⊢
        exact h
      · rw [if_neg z] at h ⊢
        omega
    · exact ih _ _ i (by omega) (by omega)
theorem oS_at {f : Nat → Int} : ∀ (m j : Nat) (b : Int), oS f m j b = b ∨ ∃ i, j ≤ i ∧ i < j + m ∧ f i = oS f m j b := fun m => by
  induction m with
  | zero => intro j b; exact Or.inl rfl
  | succ m ih =>
    intro j b
    show oS f m (j + 1) (if f j < b then f j else b) = b ∨ ∃ i, j ≤ i ∧ i < j + (m + 1) ∧ f i = oS f m (j + 1) (if f j < b then f j else b)
    by_cases z : f j < b
    · rw [if_pos z]
      rcases ih (j + 1) (f j) with w | ⟨i, x, y, w⟩
      · exact Or.inr ⟨j, Nat.le_refl _, by omega, w.symm⟩
      · exact Or.inr ⟨i, by omega, by omega, w⟩
    · rw [if_neg z]
      rcases ih (j + 1) b with w | ⟨i, x, y, w⟩
      · exact Or.inl w
      · exact Or.inr ⟨i, by omega, by omega, w⟩
theorem oS_cg {f g : Nat → Int} : ∀ (m j : Nat) (b : Int), (∀ i, j ≤ i → i < j + m → f i = g i) → oS f m j b = oS g m j b := fun m => by
  induction m with
  | zero => intro j b _; rfl
  | succ m ih =>
    intro j b h
    show oS f m (j + 1) (if f j < b then f j else b) = oS g m (j + 1) (if g j < b then g j else b)
    rw [h j (Nat.le_refl _) (by omega)]
    exact ih _ _ (fun i x y => h i (by omega) (by omega))
/-- one step behind another, then the best of the rest -/
def oR (st : Nat → Nat → Bool) (w v : Nat → Nat → Int) (rest one j : Nat) : Int := if rest.testBit j = true ∧ st one j = true then (if 1000000000 ≤ v (rest - 2 ^ j) j then 1000000000 else w one j + v (rest - 2 ^ j) j) else 1000000000
def oV (k : Nat) (st : Nat → Nat → Bool) (w : Nat → Nat → Int) : Nat → Nat → Nat → Int
  | 0, rest, _ => if rest = 0 then 0 else 1000000000
  | f + 1, rest, one => oS (oR st w (oV k st w f) rest one) k 0 (if rest = 0 then 0 else 1000000000)
def oW (k : Nat) (st : Nat → Nat → Bool) (w : Nat → Nat → Int) (rest one : Nat) : Int := oV k st w rest rest one
section ORD
variable {k : Nat} {st : Nat → Nat → Bool} {w : Nat → Nat → Int}
theorem oR_0 {v : Nat → Nat → Int} {one j : Nat} : oR st w v 0 one j = 1000000000 := if_neg (fun z => by
  rw [Nat.zero_testBit] at z
  cases z.1)
theorem oV_0 (f one : Nat) : oV k st w f 0 one = 0 := by
  cases f with
  | zero => rfl
  | succ f =>
    show oS (oR st w (oV k st w f) 0 one) k 0 0 = 0
    rcases oS_at (f := oR st w (oV k st w f) 0 one) k 0 0 with e | ⟨i, -, -, e⟩
    · exact e
    · rw [oR_0] at e
      have := oS_le (f := oR st w (oV k st w f) 0 one) k 0 0
      omega
theorem oV_f (hk : k ≤ 10) : ∀ (rest f g one : Nat), rest < 1024 → rest ≤ f → rest ≤ g → oV k st w f rest one = oV k st w g rest one := fun rest => by
  induction rest using Nat.strongRecOn with
  | _ rest ih =>
    intro f g one h1 hf hg
    by_cases z : rest = 0
    · rw [z, oV_0, oV_0]
    · obtain ⟨f, rfl⟩ : ∃ f', f = f' + 1 := ⟨f - 1, by omega⟩
      obtain ⟨g, rfl⟩ : ∃ g', g = g' + 1 := ⟨g - 1, by omega⟩
      show oS (oR st w (oV k st w f) rest one) k 0 _ = oS (oR st w (oV k st w g) rest one) k 0 _
      refine oS_cg k 0 _ (fun i _ hi => ?_)
      unfold oR
      by_cases c : rest.testBit i = true ∧ st one i = true
      · rw [if_pos c, if_pos c]
        have b := o_sub rest h1 i (by omega) c.1
        have p : 0 < 2 ^ i := Nat.pos_of_ne_zero (by
          intro e
          have := Nat.two_pow_pos i
          omega)
        rw [ih (rest - 2 ^ i) (by omega) f g i (by omega) (by omega) (by omega)]
      · rw [if_neg c, if_neg c]
theorem oW_eq (hk : k ≤ 10) {rest : Nat} (h1 : rest < 1024) (one : Nat) : oW k st w rest one = oS (oR st w (oW k st w) rest one) k 0 (if rest = 0 then 0 else 1000000000) := by
  unfold oW
  rw [oV_f hk rest rest (rest + 1) one h1 (Nat.le_refl _) (by omega)]
  show oS (oR st w (oV k st w rest) rest one) k 0 _ = _
  refine oS_cg k 0 _ (fun i _ hi => ?_)
  unfold oR
  by_cases c : rest.testBit i = true ∧ st one i = true
  · rw [if_pos c, if_pos c]
    have b := o_sub rest h1 i (by omega) c.1
    have y1 : rest - 2 ^ i < 1024 := Nat.lt_of_le_of_lt (Nat.sub_le _ _) h1
    rw [oV_f hk (rest - 2 ^ i) rest (rest - 2 ^ i) i y1 (Nat.sub_le _ _) (Nat.le_refl _)]
  · rw [if_neg c, if_neg c]
theorem oW_0 (one : Nat) : oW k st w 0 one = 0 := oV_0 0 one
/-- a number of steps, or far beyond -/
def oK (n : Nat) (v : Int) : Prop := v = 1000000000 ∨ (0 ≤ v ∧ v ≤ 2100 * (n : Int))
theorem oR_b (hw : ∀ a b, 0 ≤ w a b ∧ w a b ≤ 2100) {v : Nat → Nat → Int} {rest one j n : Nat} (hv : rest.testBit j = true → oK n (v (rest - 2 ^ j) j)) : oK (n + 1) (oR st w v rest one j) := by
  unfold oR
  by_cases c : rest.testBit j = true ∧ st one j = true
  · rw [if_pos c]
    rcases hv c.1 with e | e
    · rw [e, if_pos (by decide)]
      exact Or.inl rfl
    · have := hw one j
      by_cases z : 1000000000 ≤ v (rest - 2 ^ j) j
      · rw [if_pos z]
        exact Or.inl rfl
      · rw [if_neg z]
        exact Or.inr ⟨by omega, by omega⟩
  · rw [if_neg c]
    exact Or.inl rfl
theorem oW_b (hk : k ≤ 10) (hw : ∀ a b, 0 ≤ w a b ∧ w a b ≤ 2100) : ∀ (rest one : Nat), rest < 1024 → oK (s10 rest) (oW k st w rest one) := fun rest => by
  induction rest using Nat.strongRecOn with
  | _ rest ih =>
    intro one h1
    rw [oW_eq hk h1]
    by_cases z : rest = 0
    · subst z
      rw [← oW_eq hk h1, oW_0]
      exact Or.inr ⟨Int.le_refl _, by omega⟩
    · rw [if_neg z]
      rcases oS_at (f := oR st w (oW k st w) rest one) k 0 1000000000 with e | ⟨i, -, hi, e⟩
      · exact Or.inl e
      · rw [← e]
        obtain ⟨n, hn⟩ : ∃ n, s10 rest = n + 1 := ⟨s10 rest - 1, by
          have : s10 rest ≠ 0 := fun y => z (o_s0 rest h1 y)
          omega⟩
        rw [hn]
        refine oR_b hw (fun b => ?_)
        have y := o_sub rest h1 i (by omega) b
        have p := Nat.two_pow_pos i
        have q := ih (rest - 2 ^ i) (by omega) i (by omega)
        rw [show s10 (rest - 2 ^ i) = n by omega] at q
        exact q
/-- the program's far -/
def oC (v : Int) : Int := if 1000000000 ≤ v then 1000000 else v
def oLk (st : Nat → Nat → Bool) (w : Nat → Nat → Int) (a b : Nat) : Int := if st a b = true then w a b else 1000000
/-- the program's fold: it stops at nothing -/
def oL (rest : Nat) (l : Nat → Int) : Nat → Nat → Int → Int
  | 0, _, b => b
  | m + 1, j, b => if b ≤ 0 then b else oL rest l m (j + 1) (if rest.testBit j = true then (if l j < b then l j else b) else b)
theorem oC_b {n : Nat} (hn : n ≤ 20) {v : Int} (q : oK n v) : 0 ≤ oC v ∧ oC v ≤ 1000000 ∧ (oC v = 0 → v = 0) ∧ (v < 1000000000 → oC v = v ∧ v ≤ 42000) ∧ (1000000000 ≤ v → oC v = 1000000) := by
  unfold oC
  rcases q with e | e
  · rw [e, if_pos (by decide)]
    refine ⟨by decide, by decide, fun z => by omega, fun z => by omega, fun _ => rfl⟩
  · rw [if_neg (by omega)]
    exact ⟨by omega, by omega, fun z => z, fun _ => ⟨rfl, by omega⟩, fun z => by omega⟩
theorem oS_z {f : Nat → Int} (hf : ∀ i, 0 ≤ f i) (m j : Nat) : oS f m j 0 = 0 := by
  rcases oS_at (f := f) m j 0 with e | ⟨i, -, -, e⟩
  · exact e
  · have := hf i
    have := oS_le (f := f) m j 0
    omega
/-- the two sides' terms -/
theorem oT {hw : ∀ a b, 0 ≤ w a b ∧ w a b ≤ 2100} {v : Nat → Nat → Int} {rest one j : Nat} (hb : rest.testBit j = true) (hv : oK 10 (v (rest - 2 ^ j) j)) : (oR st w v rest one j < 1000000000 ∧ oLk st w one j + oC (v (rest - 2 ^ j) j) = oR st w v rest one j) ∨ (oR st w v rest one j = 1000000000 ∧ 1000000 ≤ oLk st w one j + oC (v (rest - 2 ^ j) j)) := by
  have b := oC_b (by decide) hv
  have ww := hw one j
  unfold oR oLk
  cases s : st one j with
  | false =>
    rw [if_neg (fun z => by cases z.2), if_neg (by decide)]
    exact Or.inr ⟨rfl, by omega⟩
  | true =>
    rw [if_pos ⟨hb, rfl⟩, if_pos rfl]
    by_cases z : 1000000000 ≤ v (rest - 2 ^ j) j
    · rw [if_pos z, b.2.2.2.2 z]
      exact Or.inr ⟨rfl, by omega⟩
    · rw [if_neg z, (b.2.2.2.1 (by omega)).1]
      have := (b.2.2.2.1 (by omega)).2
      exact Or.inl ⟨by omega, rfl⟩
theorem oL_C (hk : k ≤ 10) (hw : ∀ a b, 0 ≤ w a b ∧ w a b ≤ 2100) {v : Nat → Nat → Int} {rest one : Nat} (hv : ∀ j, j < k → rest.testBit j = true → oK 9 (v (rest - 2 ^ j) j)) {l : Nat → Int} (hl : ∀ j, j < k → rest.testBit j = true → l j = oLk st w one j + oC (v (rest - 2 ^ j) j)) : ∀ (m j : Nat) (b : Int), j + m = k → oK 10 b → oL rest l m j (oC b) = oC (oS (oR st w v rest one) m j b) := fun m => by
  induction m with
  | zero => intro j b _ _; rfl
  | succ m ih =>
    intro j b hj hb
    have cb := oC_b (by decide) hb
    have kr : ∀ i, i < k → oK 10 (oR st w v rest one i) := fun i hi => oR_b hw (fun q => hv i hi q)
    show (if oC b ≤ 0 then oC b else oL rest l m (j + 1) (if rest.testBit j = true then (if l j < oC b then l j else oC b) else oC b)) = oC (oS (oR st w v rest one) m (j + 1) (if oR st w v rest one j < b then oR st w v rest one j else b))
    by_cases z : oC b ≤ 0
    · rw [if_pos z]
      have b0 := cb.2.2.1 (by omega)
      have r0 : ∀ i, i < k → 0 ≤ oR st w v rest one i := fun i hi => by
        rcases kr i hi with e | e
        · rw [e]; decide
        · exact e.1
      rw [if_neg (by have := r0 j (by omega); omega), b0]
      have e : oS (oR st w v rest one) m (j + 1) 0 = 0 := by
        rcases oS_at (f := oR st w v rest one) m (j + 1) 0 with e | ⟨i, -, hi, e⟩
        · exact e
        · have := r0 i (by omega)
          have := oS_le (f := oR st w v rest one) m (j + 1) 0
          omega
      rw [e]
    · rw [if_neg z]
      have hb2 : oK 10 (if oR st w v rest one j < b then oR st w v rest one j else b) := by
        split
        · exact kr j (by omega)
        · exact hb
      rw [← ih (j + 1) _ (by omega) hb2]
      refine congrArg _ ?_
      cases t : rest.testBit j with
      | false =>
        rw [if_neg (by decide)]
        have e : oR st w v rest one j = 1000000000 := if_neg (fun z => by
          rw [t] at z
          cases z.1)
        rw [e]
        rcases hb with q | q
        · rw [q, if_neg (by decide)]
        · rw [if_neg (by omega)]
      | true =>
        rw [if_pos rfl, hl j (by omega) t]
        have h9 := hv j (by omega) t
        have h10 : oK 10 (v (rest - 2 ^ j) j) := h9.imp id (fun q => ⟨q.1, by omega⟩)
        rcases oT (hw := hw) (one := one) (st := st) t h10 with ⟨p1, p2⟩ | ⟨p1, p2⟩
        · rw [p2]
          by_cases c : 1000000000 ≤ b
          · rw [cb.2.2.2.2 c, if_pos (show oR st w v rest one j < b by omega)]
            have := (oC_b (by decide) (kr j (by omega))).2.2.2.1 p1
            rw [this.1, if_pos (by omega)]
          · have e := cb.2.2.2.1 (by omega)
            rw [e.1]
            by_cases y : oR st w v rest one j < b
            · rw [if_pos y]
              exact ((oC_b (by decide) (kr j (by omega))).2.2.2.1 p1).1.symm
            · rw [if_neg y, e.1]
        · have n1 : ¬ oR st w v rest one j < b := by
            rcases hb with q | q <;> omega
          rw [if_neg n1, if_neg (by omega)]
/-- the first that has the number -/
def oF (f : Nat → Bool) : Nat → Nat → Nat
  | 0, j => j
  | m + 1, j => if f j = true then j else oF f m (j + 1)
theorem oF_at {f : Nat → Bool} : ∀ (m j : Nat), (∃ i, j ≤ i ∧ i < j + m ∧ f i = true) → j ≤ oF f m j ∧ oF f m j < j + m ∧ f (oF f m j) = true := fun m => by
  induction m with
  | zero => intro j ⟨i, a, b, _⟩; omega
  | succ m ih =>
    intro j ⟨i, a, b, c⟩
    show j ≤ (if f j = true then j else oF f m (j + 1)) ∧ (if f j = true then j else oF f m (j + 1)) < j + (m + 1) ∧ f (if f j = true then j else oF f m (j + 1)) = true
    by_cases z : f j = true
    · rw [if_pos z]
      exact ⟨Nat.le_refl _, by omega, z⟩
    · rw [if_neg z]
      have e : i ≠ j := fun e => z (e ▸ c)
      have := ih (j + 1) ⟨i, by omega, by omega, c⟩
      exact ⟨by omega, by omega, this.2.2⟩
end ORD
