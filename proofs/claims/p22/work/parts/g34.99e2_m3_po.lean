section
/-! POEM, on both sides -/
/-- what a heap has below a cell stays -/
def ax_old (n : Nat) (h g : am_H) : Prop := h.1 ≤ g.1 ∧ (∀ c, c < n → g.2.2.1 c = h.2.2.1 c) ∧ ∀ c j, c < n → g.2.2.2 c j = h.2.2.2 c j
section OLD
variable {n : Nat} {h g : am_H}
theorem ax_old.rf : ax_old n h h := ⟨Nat.le_refl _, fun _ _ => rfl, fun _ _ _ => rfl⟩
theorem ax_old.put (q : ax_old n h g) {k j : Nat} {v : Value} (hk : n ≤ k) : ax_old n h (am_put g k j v) := ⟨q.1, q.2.1, fun c i hc => ax_put_o (Or.inl (by omega)) (q.2.2 c i hc)⟩
theorem ax_old.mk (q : ax_old n h g) {sh : am_Sh} {N : Nat} {d : Nat → Value} (hn : n ≤ g.1) : ax_old n h (am_mk g sh N d) := ⟨Nat.le_succ_of_le q.1, fun c hc => by
    show (if c = g.1 then sh else g.2.2.1 c) = _
    rw [if_neg (by omega)]
    exact q.2.1 c hc, fun c j hc => by
    show (if c = g.1 then d j else g.2.2.2 c j) = _
    rw [if_neg (by omega)]
    exact q.2.2 c j hc⟩
theorem ax_old.isO (q : ax_old n h g) {c k : Nat} (hc : c < n) (z : am_isO h c k = true) : am_isO g c k = true := by
  unfold am_isO at z ⊢
  have q1 := (Bool.and_eq_true _ _ ▸ z)
  have q2 := (Bool.and_eq_true _ _ ▸ q1.1)
  have q3 : c < h.1 := Nat.le_of_ble_eq_true q2.1
  rw [q.2.1 c hc, q2.2, q1.2, show Nat.blt c g.1 = true from Nat.ble_eq_true_of_le (Nat.lt_of_lt_of_le q3 q.1)]
  rfl
end OLD
section POE
variable {h : am_H} {d : Nat} {m a b c e : Int32}
theorem iw_39 {u v : Int32} : (0 ≤ u.toInt ∧ u.toInt ≤ v.toInt → am_ev d 39 0 (am_ent [.int u, .int v] 2) [] h (some (.int (Int32.ofInt 1)), h)) ∧ (¬ (0 ≤ u.toInt ∧ u.toInt ≤ v.toInt) → am_ev d 39 0 (am_ent [.int u, .int v] 2) [] h (some (.int (Int32.ofInt 0)), h)) := by
  have z0 : (0 : Int32).toInt = 0 := by decide
  refine ⟨fun q => ?_, fun q => ?_⟩
  · have c1 : ¬ u < 0 := fun z => by
      have := Int32.lt_iff_toInt_lt.1 z
      omega
    have c2 : ¬ v < u := fun z => by
      have := Int32.lt_iff_toInt_lt.1 z
      omega
    refine am_ev.step (pc' := 1) rfl rfl ?_
    refine ax_z_lt_N (p' := 4) rfl rfl c1 ?_
    refine am_ev.step (pc' := 5) rfl rfl ?_
    refine am_ev.step (pc' := 6) rfl rfl ?_
    refine ax_c_gt_N (p' := 9) rfl rfl c2 ?_
    refine am_ev.step (pc' := 10) rfl rfl ?_
    refine am_ev.step (pc' := 14) rfl rfl ?_
    exact am_ev.reti rfl rfl rfl
  · by_cases c1 : u < 0
    · refine am_ev.step (pc' := 1) rfl rfl ?_
      refine ax_z_lt_T (p' := 13) rfl rfl c1 ?_
      refine am_ev.step (pc' := 14) rfl rfl ?_
      exact am_ev.reti rfl rfl rfl
    · have c2 : v < u := Int32.lt_iff_toInt_lt.2 (by
        have := mt Int32.lt_iff_toInt_lt.2 c1
        omega)
      refine am_ev.step (pc' := 1) rfl rfl ?_
      refine ax_z_lt_N (p' := 4) rfl rfl c1 ?_
      refine am_ev.step (pc' := 5) rfl rfl ?_
      refine am_ev.step (pc' := 6) rfl rfl ?_
      refine ax_c_gt_T (p' := 13) rfl rfl c2 ?_
      refine am_ev.step (pc' := 14) rfl rfl ?_
      exact am_ev.reti rfl rfl rfl
/-- in, of ints -/
theorem in_n {u : Int32} {l g : Nat} (hl : l < 100000) (hg : g < 100000) : ((l : Int) ≤ u.toInt ∧ u.toInt ≤ g → am_ev d 165 0 (am_ent [.long u.toInt64, .long (Int64.ofNat l), .long (Int64.ofNat g)] 6) [] h (some (.int (Int32.ofInt 1)), h)) ∧ (¬ ((l : Int) ≤ u.toInt ∧ u.toInt ≤ g) → am_ev d 165 0 (am_ent [.long u.toInt64, .long (Int64.ofNat l), .long (Int64.ofNat g)] 6) [] h (some (.int (Int32.ofInt 0)), h)) := by
  have e0 : u.toInt64.toInt = u.toInt := Int32.toInt_toInt64 u
  have e1 : (Int64.ofNat l).toInt = (l : Int) := Int64.toInt_ofNat_of_lt (by omega)
  have e2 : (Int64.ofNat g).toInt = (g : Int) := Int64.toInt_ofNat_of_lt (by omega)
  exact ⟨fun q => in_165t (by omega), fun q => in_165f (by omega)⟩
theorem ip_186 : (0 ≤ a.toInt ∧ a.toInt ≤ 19 → am_ev (d + 1) 186 0 (am_ent [.int a] 1) [] h (some (.int (Int32.ofInt 1)), h)) ∧ (¬ (0 ≤ a.toInt ∧ a.toInt ≤ 19) → am_ev (d + 1) 186 0 (am_ent [.int a] 1) [] h (some (.int (Int32.ofInt 0)), h)) := by
  refine ⟨fun q => ?_, fun q => ?_⟩
  · have H := (in_n (h := h) (d := d) (u := a) (l := 0) (g := 19) (by decide) (by decide)).1 q
    refine am_ev.step (pc' := 1) rfl rfl ?_
    refine am_ev.step (pc' := 2) rfl rfl ?_
    refine am_ev.step (pc' := 3) rfl rfl ?_
    refine am_ev.step (pc' := 6) rfl rfl ?_
    refine ax_call (z := 165) (p' := 9) (as := [_, _, _]) rfl (Or.inl ⟨_, rfl⟩) rfl rfl rfl rfl rfl rfl rfl rfl H rfl ?_
    exact am_ev.reti rfl rfl rfl
  · have H := (in_n (h := h) (d := d) (u := a) (l := 0) (g := 19) (by decide) (by decide)).2 q
    refine am_ev.step (pc' := 1) rfl rfl ?_
    refine am_ev.step (pc' := 2) rfl rfl ?_
    refine am_ev.step (pc' := 3) rfl rfl ?_
    refine am_ev.step (pc' := 6) rfl rfl ?_
    refine ax_call (z := 165) (p' := 9) (as := [_, _, _]) rfl (Or.inl ⟨_, rfl⟩) rfl rfl rfl rfl rfl rfl rfl rfl H rfl ?_
    exact am_ev.reti rfl rfl rfl
def po_ok (a b c e : Int32) : Prop := (0 ≤ a.toInt ∧ a.toInt ≤ 19) ∧ (0 ≤ b.toInt ∧ b.toInt ≤ 2100) ∧ (0 ≤ c.toInt ∧ c.toInt ≤ 19) ∧ (0 ≤ e.toInt ∧ e.toInt ≤ 99)
theorem pc_38f (q : ¬ po_ok a b c e) : am_ev (d + 1) 38 0 (am_ent [.ref 40, .int a, .int b, .int c, .int e] 5) [] h (some (ax_m (-2)), h) := by
  by_cases q1 : 0 ≤ a.toInt ∧ a.toInt ≤ 19
  · have H1 := (iw_39 (h := h) (d := d) (u := a) (v := (Int8.ofInt 19).toInt32)).1 (by rw [show (Int8.ofInt 19).toInt32.toInt = 19 by decide]; exact q1)
    by_cases q2 : 0 ≤ b.toInt ∧ b.toInt ≤ 2100
    · have H2 := (iw_39 (h := h) (d := d) (u := b) (v := (Int16.ofInt 2100).toInt32)).1 (by rw [show (Int16.ofInt 2100).toInt32.toInt = 2100 by decide]; exact q2)
      by_cases q3 : 0 ≤ c.toInt ∧ c.toInt ≤ 19
      · have H3 := (iw_39 (h := h) (d := d) (u := c) (v := (Int8.ofInt 19).toInt32)).1 (by rw [show (Int8.ofInt 19).toInt32.toInt = 19 by decide]; exact q3)
        have q4 : ¬ (0 ≤ e.toInt ∧ e.toInt ≤ 99) := fun q4 => q ⟨q1, q2, q3, q4⟩
        have H4 := (iw_39 (h := h) (d := d) (u := e) (v := (Int8.ofInt 99).toInt32)).2 (by rw [show (Int8.ofInt 99).toInt32.toInt = 99 by decide]; exact q4)
        refine am_ev.step (pc' := 1) rfl rfl ?_
        refine am_ev.step (pc' := 3) rfl rfl ?_
        refine ax_call (z := 39) (p' := 6) (as := [_, _]) rfl (Or.inl ⟨_, rfl⟩) rfl rfl rfl rfl rfl rfl rfl rfl H1 rfl ?_
        refine ax_z_eq_N (p' := 9) rfl rfl (by decide : ¬ Int32.ofInt 1 = 0) ?_
        refine am_ev.step (pc' := 10) rfl rfl ?_
        refine am_ev.step (pc' := 13) rfl rfl ?_
        refine ax_call (z := 39) (p' := 16) (as := [_, _]) rfl (Or.inl ⟨_, rfl⟩) rfl rfl rfl rfl rfl rfl rfl rfl H2 rfl ?_
        refine ax_z_eq_N (p' := 19) rfl rfl (by decide : ¬ Int32.ofInt 1 = 0) ?_
        refine am_ev.step (pc' := 20) rfl rfl ?_
        refine am_ev.step (pc' := 22) rfl rfl ?_
        refine ax_call (z := 39) (p' := 25) (as := [_, _]) rfl (Or.inl ⟨_, rfl⟩) rfl rfl rfl rfl rfl rfl rfl rfl H3 rfl ?_
        refine ax_z_eq_N (p' := 28) rfl rfl (by decide : ¬ Int32.ofInt 1 = 0) ?_
        refine am_ev.step (pc' := 30) rfl rfl ?_
        refine am_ev.step (pc' := 32) rfl rfl ?_
        refine ax_call (z := 39) (p' := 35) (as := [_, _]) rfl (Or.inl ⟨_, rfl⟩) rfl rfl rfl rfl rfl rfl rfl rfl H4 rfl ?_
        refine ax_z_ne_N (p' := 38) rfl rfl (by decide : Int32.ofInt 0 = 0) ?_
        refine am_ev.step (pc' := 40) rfl rfl ?_
        exact am_ev.reti rfl rfl rfl
      · have H3 := (iw_39 (h := h) (d := d) (u := c) (v := (Int8.ofInt 19).toInt32)).2 (by rw [show (Int8.ofInt 19).toInt32.toInt = 19 by decide]; exact q3)
        refine am_ev.step (pc' := 1) rfl rfl ?_
        refine am_ev.step (pc' := 3) rfl rfl ?_
        refine ax_call (z := 39) (p' := 6) (as := [_, _]) rfl (Or.inl ⟨_, rfl⟩) rfl rfl rfl rfl rfl rfl rfl rfl H1 rfl ?_
        refine ax_z_eq_N (p' := 9) rfl rfl (by decide : ¬ Int32.ofInt 1 = 0) ?_
        refine am_ev.step (pc' := 10) rfl rfl ?_
        refine am_ev.step (pc' := 13) rfl rfl ?_
        refine ax_call (z := 39) (p' := 16) (as := [_, _]) rfl (Or.inl ⟨_, rfl⟩) rfl rfl rfl rfl rfl rfl rfl rfl H2 rfl ?_
        refine ax_z_eq_N (p' := 19) rfl rfl (by decide : ¬ Int32.ofInt 1 = 0) ?_
        refine am_ev.step (pc' := 20) rfl rfl ?_
        refine am_ev.step (pc' := 22) rfl rfl ?_
        refine ax_call (z := 39) (p' := 25) (as := [_, _]) rfl (Or.inl ⟨_, rfl⟩) rfl rfl rfl rfl rfl rfl rfl rfl H3 rfl ?_
        refine ax_z_eq_T (p' := 38) rfl rfl (by decide : Int32.ofInt 0 = 0) ?_
        refine am_ev.step (pc' := 40) rfl rfl ?_
        exact am_ev.reti rfl rfl rfl
    · have H2 := (iw_39 (h := h) (d := d) (u := b) (v := (Int16.ofInt 2100).toInt32)).2 (by rw [show (Int16.ofInt 2100).toInt32.toInt = 2100 by decide]; exact q2)
      refine am_ev.step (pc' := 1) rfl rfl ?_
      refine am_ev.step (pc' := 3) rfl rfl ?_
      refine ax_call (z := 39) (p' := 6) (as := [_, _]) rfl (Or.inl ⟨_, rfl⟩) rfl rfl rfl rfl rfl rfl rfl rfl H1 rfl ?_
      refine ax_z_eq_N (p' := 9) rfl rfl (by decide : ¬ Int32.ofInt 1 = 0) ?_
      refine am_ev.step (pc' := 10) rfl rfl ?_
      refine am_ev.step (pc' := 13) rfl rfl ?_
      refine ax_call (z := 39) (p' := 16) (as := [_, _]) rfl (Or.inl ⟨_, rfl⟩) rfl rfl rfl rfl rfl rfl rfl rfl H2 rfl ?_
      refine ax_z_eq_T (p' := 38) rfl rfl (by decide : Int32.ofInt 0 = 0) ?_
      refine am_ev.step (pc' := 40) rfl rfl ?_
      exact am_ev.reti rfl rfl rfl
  · have H1 := (iw_39 (h := h) (d := d) (u := a) (v := (Int8.ofInt 19).toInt32)).2 (by rw [show (Int8.ofInt 19).toInt32.toInt = 19 by decide]; exact q1)
    refine am_ev.step (pc' := 1) rfl rfl ?_
    refine am_ev.step (pc' := 3) rfl rfl ?_
    refine ax_call (z := 39) (p' := 6) (as := [_, _]) rfl (Or.inl ⟨_, rfl⟩) rfl rfl rfl rfl rfl rfl rfl rfl H1 rfl ?_
    refine ax_z_eq_T (p' := 38) rfl rfl (by decide : Int32.ofInt 0 = 0) ?_
    refine am_ev.step (pc' := 40) rfl rfl ?_
    exact am_ev.reti rfl rfl rfl
theorem pc_38u (I : cq_Inv none h) (q : po_ok a b c e) (v : h.2.2.2 40 8 = .int m) (hm : 40 ≤ m.toInt) : am_ev (d + 1) 38 0 (am_ent [.ref 40, .int a, .int b, .int c, .int e] 5) [] h (some (ax_m (-3)), h) := by
  have O := ax_o I (c := 40) (k := 11) (by decide +kernel)
  have H1 := (iw_39 (h := h) (d := d) (u := a) (v := (Int8.ofInt 19).toInt32)).1 (by rw [show (Int8.ofInt 19).toInt32.toInt = 19 by decide]; exact q.1)
  have H2 := (iw_39 (h := h) (d := d) (u := b) (v := (Int16.ofInt 2100).toInt32)).1 (by rw [show (Int16.ofInt 2100).toInt32.toInt = 2100 by decide]; exact q.2.1)
  have H3 := (iw_39 (h := h) (d := d) (u := c) (v := (Int8.ofInt 19).toInt32)).1 (by rw [show (Int8.ofInt 19).toInt32.toInt = 19 by decide]; exact q.2.2.1)
  have H4 := (iw_39 (h := h) (d := d) (u := e) (v := (Int8.ofInt 99).toInt32)).1 (by rw [show (Int8.ofInt 99).toInt32.toInt = 99 by decide]; exact q.2.2.2)
  have lt : ¬ m < (Int8.ofInt 40).toInt32 := fun z => by
    have z := Int32.lt_iff_toInt_lt.1 z
    rw [show (Int8.ofInt 40).toInt32.toInt = 40 by decide] at z
    omega
  refine am_ev.step (pc' := 1) rfl rfl ?_
  refine am_ev.step (pc' := 3) rfl rfl ?_
  refine ax_call (z := 39) (p' := 6) (as := [_, _]) rfl (Or.inl ⟨_, rfl⟩) rfl rfl rfl rfl rfl rfl rfl rfl H1 rfl ?_
  refine ax_z_eq_N (p' := 9) rfl rfl (by decide : ¬ Int32.ofInt 1 = 0) ?_
  refine am_ev.step (pc' := 10) rfl rfl ?_
  refine am_ev.step (pc' := 13) rfl rfl ?_
  refine ax_call (z := 39) (p' := 16) (as := [_, _]) rfl (Or.inl ⟨_, rfl⟩) rfl rfl rfl rfl rfl rfl rfl rfl H2 rfl ?_
  refine ax_z_eq_N (p' := 19) rfl rfl (by decide : ¬ Int32.ofInt 1 = 0) ?_
  refine am_ev.step (pc' := 20) rfl rfl ?_
  refine am_ev.step (pc' := 22) rfl rfl ?_
  refine ax_call (z := 39) (p' := 25) (as := [_, _]) rfl (Or.inl ⟨_, rfl⟩) rfl rfl rfl rfl rfl rfl rfl rfl H3 rfl ?_
  refine ax_z_eq_N (p' := 28) rfl rfl (by decide : ¬ Int32.ofInt 1 = 0) ?_
  refine am_ev.step (pc' := 30) rfl rfl ?_
  refine am_ev.step (pc' := 32) rfl rfl ?_
  refine ax_call (z := 39) (p' := 35) (as := [_, _]) rfl (Or.inl ⟨_, rfl⟩) rfl rfl rfl rfl rfl rfl rfl rfl H4 rfl ?_
  refine ax_z_ne_T (p' := 41) rfl rfl (by decide : ¬ Int32.ofInt 1 = 0) ?_
  refine am_ev.step (pc' := 42) rfl rfl ?_
  refine ax_gf (p' := 45) rfl rfl O v ?_
  refine am_ev.step (pc' := 47) rfl rfl ?_
  refine ax_c_lt_N (p' := 50) rfl rfl lt ?_
  refine am_ev.step (pc' := 52) rfl rfl ?_
  exact am_ev.reti rfl rfl rfl
/-- what a new poem has besides: year, holder, worth, no translation, no editions, its two arrays from cell q on -/
def pO (g : am_H) (x q : Nat) (b c e : Int32) : Prop := g.2.2.2 x 1 = .int b ∧ g.2.2.2 x 2 = .int c ∧ g.2.2.2 x 3 = .int e ∧ g.2.2.2 x 5 = .int (Int32.ofInt 0) ∧ g.2.2.2 x 6 = .int (Int32.ofInt 0) ∧ g.2.2.2 x 7 = .ref q ∧ g.2.2.2 x 8 = .ref (q + 1) ∧ (∀ j, j < 3 → g.2.2.2 (q + 1) j = .int (Int32.ofInt (-1))) ∧ g.2.2.1 q = (1, 7, 3) ∧ g.2.2.1 (q + 1) = (1, 0, 3) ∧ g.1 = q + 2
theorem pc_40 {x : Nat} (O : am_isO h x 6 = true) : ∃ g : am_H, am_ev (d + 1) 40 0 (am_ent [.ref x, .int a, .int b, .int c, .int e] 5) [] h (none, g) ∧ ax_old x h g ∧ g.2.2.1 x = h.2.2.1 x ∧ g.2.2.2 x 0 = .int a ∧ g.2.2.2 x 4 = .int (Int32.ofInt (-1)) ∧ pO g x h.1 b c e := by
  have xl : x < h.1 := by
    unfold am_isO at O
    have q1 := (Bool.and_eq_true _ _ ▸ O)
    have q2 := (Bool.and_eq_true _ _ ▸ q1.1)
    exact Nat.le_of_ble_eq_true q2.1
  obtain ⟨h1, e1⟩ : ∃ h1 : am_H, h1 = am_put (am_put (am_put h x 4 (.int (Int32.ofInt (-1)))) x 5 (.int (Int32.ofInt 0))) x 6 (.int (Int32.ofInt 0)) := ⟨_, rfl⟩
  have o1 : ax_old x h h1 := by
    rw [e1]
    exact ((ax_old.rf.put (Nat.le_refl _)).put (Nat.le_refl _)).put (Nat.le_refl _)
  have s1 : h1.1 = h.1 ∧ h1.2.2.1 = h.2.2.1 := by
    rw [e1]
    exact ⟨rfl, rfl⟩
  have v1 : h1.2.2.2 x 4 = .int (Int32.ofInt (-1)) := by
    rw [e1]
    exact ax_put_o (Or.inr (by decide)) (ax_put_o (Or.inr (by decide)) (ax_put_s _ _ _))
  have O1 : am_isO h1 x 6 = true := by
    rw [e1]
    exact O
  obtain ⟨h2, e2⟩ : ∃ h2 : am_H, h2 = am_mk h1 (1, 7, (Int32.ofInt 3).toNatClampNeg) (Int32.ofInt 3).toNatClampNeg (fun _ => .null) := ⟨_, rfl⟩
  have o2 : ax_old x h h2 := by
    rw [e2]
    exact o1.mk (by rw [s1.1]; exact Nat.le_of_lt xl)
  have n2 : h2.1 = h.1 + 1 := by
    rw [e2]
    show h1.1 + 1 = _
    rw [s1.1]
  have sx2 : h2.2.2.1 x = h.2.2.1 x := by
    rw [e2]
    show (if x = h1.1 then _ else h1.2.2.1 x) = _
    rw [if_neg (by rw [s1.1]; omega), s1.2]
  have v2 : h2.2.2.2 x 4 = .int (Int32.ofInt (-1)) := by
    rw [e2]
    show (if x = h1.1 then _ else h1.2.2.2 x 4) = _
    rw [if_neg (by rw [s1.1]; omega), v1]
  have O2 : am_isO h2 x 6 = true := by
    unfold am_isO at O ⊢
    have q1 := (Bool.and_eq_true _ _ ▸ O)
    have q2 := (Bool.and_eq_true _ _ ▸ q1.1)
    rw [sx2, q2.2, q1.2, n2, show Nat.blt x (h.1 + 1) = true from Nat.ble_eq_true_of_le (by omega)]
    rfl
  obtain ⟨h3, e3⟩ : ∃ h3 : am_H, h3 = am_put h2 x 7 (.ref h1.1) := ⟨_, rfl⟩
  obtain ⟨h4, e4⟩ : ∃ h4 : am_H, h4 = am_mk h3 (1, 0, (Int32.ofInt 3).toNatClampNeg) (Int32.ofInt 3).toNatClampNeg (fun _ => am_dv 0) := ⟨_, rfl⟩
  have o3 : ax_old x h h3 := by
    rw [e3]
    exact o2.put (Nat.le_refl _)
  have n3 : h3.1 = h.1 + 1 := by
    rw [e3]
    exact n2
  have o4 : ax_old x h h4 := by
    rw [e4]
    exact o3.mk (by rw [n3]; omega)
  have n4 : h4.1 = h.1 + 2 := by
    rw [e4]
    show h3.1 + 1 = _
    rw [n3]
  have sx4 : h4.2.2.1 x = h.2.2.1 x := by
    rw [e4]
    show (if x = h3.1 then _ else h3.2.2.1 x) = _
    rw [if_neg (by rw [n3]; omega), e3]
    exact sx2
  have v4 : h4.2.2.2 x 4 = .int (Int32.ofInt (-1)) := by
    rw [e4]
    show (if x = h3.1 then _ else h3.2.2.2 x 4) = _
    rw [if_neg (by rw [n3]; omega), e3]
    exact ax_put_o (Or.inr (by decide)) v2
  have O4 : am_isO h4 x 6 = true := by
    unfold am_isO at O ⊢
    have q1 := (Bool.and_eq_true _ _ ▸ O)
    have q2 := (Bool.and_eq_true _ _ ▸ q1.1)
    rw [sx4, q2.2, q1.2, n4, show Nat.blt x (h.1 + 2) = true from Nat.ble_eq_true_of_le (by omega)]
    rfl
  have sy : h4.2.2.1 h3.1 = (1, 0, 3) := by
    rw [e4]
    show (if h3.1 = h3.1 then _ else _) = _
    rw [if_pos rfl]
    rfl
  have ly : h3.1 < h4.1 := by
    rw [n3, n4]
    omega
  have wr : ∀ (k : am_H) (j : Int32), k.1 = h4.1 → k.2.2.1 = h4.2.2.1 → 0 ≤ j.toInt → j.toInt < 3 → am_wr k h3.1 j 0 (.int (Int32.ofInt (-1))) = some (am_put k h3.1 j.toInt.toNat (.int (Int32.ofInt (-1)))) := fun k j q1 q2 j0 j1 => ax_wrv (by rw [q1]; exact ly) (by rw [q2]; exact sy) j0 (by omega)
  obtain ⟨h5, e5⟩ : ∃ h5 : am_H, h5 = am_put (am_put (am_put h4 h3.1 (Int32.ofInt 0).toInt.toNat (.int (Int32.ofInt (-1)))) h3.1 (Int32.ofInt 1).toInt.toNat (.int (Int32.ofInt (-1)))) h3.1 (Int32.ofInt 2).toInt.toNat (.int (Int32.ofInt (-1))) := ⟨_, rfl⟩
  have yx : x ≤ h3.1 := by
    rw [n3]
    omega
  have o5 : ax_old x h h5 := by
    rw [e5]
    exact ((o4.put yx).put yx).put yx
  have sx5 : h5.2.2.1 x = h.2.2.1 x := by
    rw [e5]
    exact sx4
  have v5 : h5.2.2.2 x 4 = .int (Int32.ofInt (-1)) := by
    rw [e5]
    exact ax_put_o (Or.inl (by rw [n3]; omega)) (ax_put_o (Or.inl (by rw [n3]; omega)) (ax_put_o (Or.inl (by rw [n3]; omega)) v4))
  have O5 : am_isO h5 x 6 = true := by
    rw [e5]
    exact O4
  have w1 := wr h4 (Int32.ofInt 0) rfl rfl (by decide) (by decide)
  have w2 := wr (am_put h4 h3.1 (Int32.ofInt 0).toInt.toNat (.int (Int32.ofInt (-1)))) (Int32.ofInt 1) rfl rfl (by decide) (by decide)
  have w3 := wr (am_put (am_put h4 h3.1 (Int32.ofInt 0).toInt.toNat (.int (Int32.ofInt (-1)))) h3.1 (Int32.ofInt 1).toInt.toNat (.int (Int32.ofInt (-1)))) (Int32.ofInt 2) rfl rfl (by decide) (by decide)
  rw [← e5] at w3
  have xv : ∀ j, j ≠ 7 → h5.2.2.2 x j = h1.2.2.2 x j := fun j hj => by
    rw [e5]
    refine Eq.trans (ax_put_o (Or.inl (by rw [n3]; omega)) (ax_put_o (Or.inl (by rw [n3]; omega)) (ax_put_o (Or.inl (by rw [n3]; omega)) rfl))) ?_
    rw [e4]
    show (if x = h3.1 then _ else h3.2.2.2 x j) = _
    rw [if_neg (by rw [n3]; omega), e3]
    refine Eq.trans (ax_put_o (Or.inr hj) rfl) ?_
    rw [e2]
    show (if x = h1.1 then _ else h1.2.2.2 x j) = _
    rw [if_neg (by rw [s1.1]; omega)]
  have x5 : h5.2.2.2 x 5 = .int (Int32.ofInt 0) := by
    rw [xv 5 (by decide), e1]
    exact ax_put_o (Or.inr (by decide)) (ax_put_s _ _ _)
  have x6 : h5.2.2.2 x 6 = .int (Int32.ofInt 0) := by
    rw [xv 6 (by decide), e1]
    exact ax_put_s _ _ _
  have x7 : h5.2.2.2 x 7 = .ref h.1 := by
    rw [e5]
    refine Eq.trans (ax_put_o (Or.inl (by rw [n3]; omega)) (ax_put_o (Or.inl (by rw [n3]; omega)) (ax_put_o (Or.inl (by rw [n3]; omega)) rfl))) ?_
    rw [e4]
    show (if x = h3.1 then _ else h3.2.2.2 x 7) = _
    rw [if_neg (by rw [n3]; omega), e3, s1.1]
    exact ax_put_s _ _ _
  have q1 : h5.2.2.1 h.1 = (1, 7, 3) := by
    rw [e5]
    show h4.2.2.1 h.1 = _
    rw [e4]
    show (if h.1 = h3.1 then _ else h3.2.2.1 h.1) = _
    rw [if_neg (by rw [n3]; omega), e3]
    show h2.2.2.1 h.1 = _
    rw [e2]
    show (if h.1 = h1.1 then _ else h1.2.2.1 h.1) = _
    rw [if_pos s1.1.symm]
    rfl
  have q2 : h5.2.2.1 (h.1 + 1) = (1, 0, 3) := by
    rw [e5]
    show h4.2.2.1 (h.1 + 1) = _
    rw [← n3]
    exact sy
  have i0 : (Int32.ofInt 0).toInt.toNat = 0 := by decide
  have i1 : (Int32.ofInt 1).toInt.toNat = 1 := by decide
  have i2 : (Int32.ofInt 2).toInt.toNat = 2 := by decide
  have x9 : ∀ j, j < 3 → h5.2.2.2 (h.1 + 1) j = .int (Int32.ofInt (-1)) := fun j hj => by
    rw [e5, i0, i1, i2, n3]
    have hj : j = 0 ∨ j = 1 ∨ j = 2 := by omega
    rcases hj with rfl | rfl | rfl
    · exact ax_put_o (Or.inr (by decide)) (ax_put_o (Or.inr (by decide)) (ax_put_s _ _ _))
    · exact ax_put_o (Or.inr (by decide)) (ax_put_s _ _ _)
    · exact ax_put_s _ _ _
  have n5 : h5.1 = h.1 + 2 := by
    rw [e5]
    exact n4
  refine ⟨am_put (am_put (am_put (am_put (am_put h5 x 8 (.ref h3.1)) x 0 (.int a)) x 1 (.int b)) x 2 (.int c)) x 3 (.int e), ?_, ((((o5.put (Nat.le_refl _)).put (Nat.le_refl _)).put (Nat.le_refl _)).put (Nat.le_refl _)).put (Nat.le_refl _), sx5, ?_, ?_, ?_⟩
  · refine am_ev.step (pc' := 1) rfl rfl ?_
    refine ax_obj (p' := 4) rfl ?_ rfl rfl rfl ?_
    · exact Or.inr (Or.inr ⟨_, rfl⟩)
    refine am_ev.step (pc' := 5) rfl rfl ?_
    refine am_ev.step (pc' := 6) rfl rfl ?_
    refine ax_pf (p' := 9) rfl rfl O rfl ?_
    refine am_ev.step (pc' := 10) rfl rfl ?_
    refine am_ev.step (pc' := 11) rfl rfl ?_
    refine ax_pf (p' := 14) rfl rfl O rfl ?_
    refine am_ev.step (pc' := 15) rfl rfl ?_
    refine am_ev.step (pc' := 16) rfl rfl ?_
    refine ax_pf (p' := 19) rfl rfl O rfl ?_
    refine am_ev.step (pc' := 20) rfl rfl ?_
    rw [← e1]
    refine am_ev.step (pc' := 21) rfl rfl ?_
    refine am_ev.step (pc' := 24) (h' := h2) rfl (by rw [e2]; rfl) ?_
    refine ax_pf (p' := 27) rfl rfl O2 rfl ?_
    rw [← e3]
    refine am_ev.step (pc' := 28) rfl rfl ?_
    refine am_ev.step (pc' := 29) rfl rfl ?_
    refine am_ev.step (pc' := 31) (h' := h4) rfl (by rw [e4]; rfl) ?_
    refine am_ev.step (pc' := 32) rfl rfl ?_
    refine am_ev.step (pc' := 33) rfl rfl ?_
    refine am_ev.step (pc' := 34) rfl rfl ?_
    refine ax_iastore (p' := 35) rfl rfl w1 ?_
    refine am_ev.step (pc' := 36) rfl rfl ?_
    refine am_ev.step (pc' := 37) rfl rfl ?_
    refine am_ev.step (pc' := 38) rfl rfl ?_
    refine ax_iastore (p' := 39) rfl rfl w2 ?_
    refine am_ev.step (pc' := 40) rfl rfl ?_
    refine am_ev.step (pc' := 41) rfl rfl ?_
    refine am_ev.step (pc' := 42) rfl rfl ?_
    refine ax_iastore (p' := 43) rfl rfl w3 ?_
    refine ax_pf (p' := 46) rfl rfl O5 rfl ?_
    refine am_ev.step (pc' := 47) rfl rfl ?_
    refine am_ev.step (pc' := 48) rfl rfl ?_
    refine ax_pf (p' := 51) rfl rfl O5 rfl ?_
    refine am_ev.step (pc' := 52) rfl rfl ?_
    refine am_ev.step (pc' := 53) rfl rfl ?_
    refine ax_pf (p' := 56) rfl rfl O5 rfl ?_
    refine am_ev.step (pc' := 57) rfl rfl ?_
    refine am_ev.step (pc' := 58) rfl rfl ?_
    refine ax_pf (p' := 61) rfl rfl O5 rfl ?_
    refine am_ev.step (pc' := 62) rfl rfl ?_
    refine am_ev.step (pc' := 64) rfl rfl ?_
    refine ax_pf (p' := 67) rfl rfl O5 rfl ?_
    exact am_ev.retv rfl rfl
  · exact ax_put_o (Or.inr (by decide)) (ax_put_o (Or.inr (by decide)) (ax_put_o (Or.inr (by decide)) (ax_put_s _ _ _)))
  · exact ax_put_o (Or.inr (by decide)) (ax_put_o (Or.inr (by decide)) (ax_put_o (Or.inr (by decide)) (ax_put_o (Or.inr (by decide)) (ax_put_o (Or.inr (by decide)) v5))))
  · have xo : ∀ j, 4 ≤ j → j ≠ 8 → (am_put (am_put (am_put (am_put (am_put h5 x 8 (.ref h3.1)) x 0 (.int a)) x 1 (.int b)) x 2 (.int c)) x 3 (.int e)).2.2.2 x j = h5.2.2.2 x j := fun j a1 a2 => ax_put_o (Or.inr (by omega)) (ax_put_o (Or.inr (by omega)) (ax_put_o (Or.inr (by omega)) (ax_put_o (Or.inr (by omega)) (ax_put_o (Or.inr a2) rfl))))
    refine ⟨ax_put_o (Or.inr (by decide)) (ax_put_o (Or.inr (by decide)) (ax_put_s _ _ _)), ax_put_o (Or.inr (by decide)) (ax_put_s _ _ _), ax_put_s _ _ _, (xo 5 (by decide) (by decide)).trans x5, (xo 6 (by decide) (by decide)).trans x6, (xo 7 (by decide) (by decide)).trans x7, ?_, fun j hj => ?_, q1, q2, n5⟩
    · rw [← n3]
      exact ax_put_o (Or.inr (by decide)) (ax_put_o (Or.inr (by decide)) (ax_put_o (Or.inr (by decide)) (ax_put_o (Or.inr (by decide)) (ax_put_s _ _ _))))
    · exact Eq.trans (ax_put_o (Or.inl (by omega)) (ax_put_o (Or.inl (by omega)) (ax_put_o (Or.inl (by omega)) (ax_put_o (Or.inl (by omega)) (ax_put_o (Or.inl (by omega)) rfl))))) (x9 j hj)
theorem pc_38d (I : cq_Inv none h) (q : po_ok a b c e) (v : h.2.2.2 40 8 = .int m) (hm : 0 ≤ m.toInt ∧ m.toInt < 40) : ∃ g : am_H, am_ev (d + 2) 38 0 (am_ent [.ref 40, .int a, .int b, .int c, .int e] 5) [] h (some (.int (m + Int32.ofInt 1 - Int32.ofInt 1)), g) ∧ g.2.2.2 40 8 = .int (m + Int32.ofInt 1) ∧ g.2.2.2 73 m.toInt.toNat = .ref h.1 ∧ g.2.2.2 h.1 0 = .int a ∧ g.2.2.2 h.1 4 = .int (Int32.ofInt (-1)) ∧ (∀ j, j ≠ m.toInt.toNat → g.2.2.2 73 j = h.2.2.2 73 j) ∧ (∀ s j, 130 ≤ s → s < h.1 → g.2.2.2 s j = h.2.2.2 s j) ∧ pO g h.1 (h.1 + 1) b c e := by
  have lo := I.lo
  have O := ax_o I (c := 40) (k := 11) (by decide +kernel)
  have v7 := ax_rf I (c := 40) (j := 7) (k := 73) (by decide +kernel) (by decide +kernel)
  have A := ax_ar I (c := 73) (tc := 10) (n := 40) (by decide) (by decide +kernel)
  have H1 := (iw_39 (h := h) (d := d + 1) (u := a) (v := (Int8.ofInt 19).toInt32)).1 (by rw [show (Int8.ofInt 19).toInt32.toInt = 19 by decide]; exact q.1)
  have H2 := (iw_39 (h := h) (d := d + 1) (u := b) (v := (Int16.ofInt 2100).toInt32)).1 (by rw [show (Int16.ofInt 2100).toInt32.toInt = 2100 by decide]; exact q.2.1)
  have H3 := (iw_39 (h := h) (d := d + 1) (u := c) (v := (Int8.ofInt 19).toInt32)).1 (by rw [show (Int8.ofInt 19).toInt32.toInt = 19 by decide]; exact q.2.2.1)
  have H4 := (iw_39 (h := h) (d := d + 1) (u := e) (v := (Int8.ofInt 99).toInt32)).1 (by rw [show (Int8.ofInt 99).toInt32.toInt = 99 by decide]; exact q.2.2.2)
  have lt : m < (Int8.ofInt 40).toInt32 := Int32.lt_iff_toInt_lt.2 (by
    rw [show (Int8.ofInt 40).toInt32.toInt = 40 by decide]
    exact hm.2)
  obtain ⟨k, hk⟩ : ∃ k : am_H, k = am_mk h (0, 6, am_N 6) (am_N 6) (fun j => defaultValue (am_ty 6 j)) := ⟨_, rfl⟩
  have k1 : k.1 = h.1 + 1 := by rw [hk]; rfl
  have ko : ax_old h.1 h k := by
    rw [hk]
    exact ax_old.rf.mk (Nat.le_refl _)
  have ka : k.2.2.1 h.1 = (0, 6, am_N 6) := by
    rw [hk]
    exact if_pos rfl
  have Ok : am_isO k h.1 6 = true := by
    unfold am_isO
    rw [ka, k1, show Nat.blt h.1 (h.1 + 1) = true from Nat.ble_eq_true_of_le (Nat.le_refl _)]
    rfl
  obtain ⟨g, ev, go, gs, ga, gt, gp⟩ := pc_40 (d := d) (a := a) (b := b) (c := c) (e := e) Ok
  have go2 : ax_old h.1 h g := ⟨Nat.le_trans ko.1 go.1, fun c hc => by rw [go.2.1 c hc, ko.2.1 c hc], fun c j hc => by rw [go.2.2 c j hc, ko.2.2 c j hc]⟩
  have sa : g.2.2.1 h.1 = (0, 6, am_N 6) := by rw [gs, ka]
  have la : h.1 < g.1 := by
    have := go.1
    omega
  have Oa : am_isO g h.1 6 = true := by
    unfold am_isO
    rw [sa, show Nat.blt h.1 g.1 = true from Nat.ble_eq_true_of_le la]
    rfl
  have WR : am_isO g h.1 (g.2.2.1 h.1).2.1 = true ∧ am_isA ((g.2.2.1 h.1).2.1 + 4) = true ∧ am_wr g 73 m ((g.2.2.1 h.1).2.1 + 4) (.ref h.1) = some (am_put g 73 m.toInt.toNat (.ref h.1)) := by
    rw [sa]
    exact ⟨Oa, by decide +kernel, ax_wrv (by omega) (by rw [go2.2.1 73 (by omega), A.2]) hm.1 (by omega)⟩
  have Og := go2.isO (c := 40) (k := 11) (by omega) O
  obtain ⟨g2, e2⟩ : ∃ g2 : am_H, g2 = am_put g 73 m.toInt.toNat (.ref h.1) := ⟨_, rfl⟩
  rw [← e2] at WR
  have f8 : g2.2.2.2 40 8 = .int m := by
    rw [e2]
    exact ax_put_o (Or.inl (by decide)) (by rw [go2.2.2 40 8 (by omega), v])
  have O2 : am_isO g2 40 11 = true := by rw [e2]; exact Og
  refine ⟨am_put g2 40 8 (.int (m + Int32.ofInt 1)), ?_, ax_put_s _ _ _, ax_put_o (Or.inl (by decide)) ?_, ax_put_o (Or.inl (by omega)) ?_, ax_put_o (Or.inl (by omega)) ?_, fun j hj => ax_put_o (Or.inl (by decide)) ?_, fun s j h1 h2 => ax_put_o (Or.inl (by omega)) ?_, ?_⟩
  · refine am_ev.step (pc' := 1) rfl rfl ?_
    refine am_ev.step (pc' := 3) rfl rfl ?_
    refine ax_call (z := 39) (p' := 6) (as := [_, _]) rfl (Or.inl ⟨_, rfl⟩) rfl rfl rfl rfl rfl rfl rfl rfl H1 rfl ?_
    refine ax_z_eq_N (p' := 9) rfl rfl (by decide : ¬ Int32.ofInt 1 = 0) ?_
    refine am_ev.step (pc' := 10) rfl rfl ?_
    refine am_ev.step (pc' := 13) rfl rfl ?_
    refine ax_call (z := 39) (p' := 16) (as := [_, _]) rfl (Or.inl ⟨_, rfl⟩) rfl rfl rfl rfl rfl rfl rfl rfl H2 rfl ?_
    refine ax_z_eq_N (p' := 19) rfl rfl (by decide : ¬ Int32.ofInt 1 = 0) ?_
    refine am_ev.step (pc' := 20) rfl rfl ?_
    refine am_ev.step (pc' := 22) rfl rfl ?_
    refine ax_call (z := 39) (p' := 25) (as := [_, _]) rfl (Or.inl ⟨_, rfl⟩) rfl rfl rfl rfl rfl rfl rfl rfl H3 rfl ?_
    refine ax_z_eq_N (p' := 28) rfl rfl (by decide : ¬ Int32.ofInt 1 = 0) ?_
    refine am_ev.step (pc' := 30) rfl rfl ?_
    refine am_ev.step (pc' := 32) rfl rfl ?_
    refine ax_call (z := 39) (p' := 35) (as := [_, _]) rfl (Or.inl ⟨_, rfl⟩) rfl rfl rfl rfl rfl rfl rfl rfl H4 rfl ?_
    refine ax_z_ne_T (p' := 41) rfl rfl (by decide : ¬ Int32.ofInt 1 = 0) ?_
    refine am_ev.step (pc' := 42) rfl rfl ?_
    refine ax_gf (p' := 45) rfl rfl O v ?_
    refine am_ev.step (pc' := 47) rfl rfl ?_
    refine ax_c_lt_T (p' := 53) rfl rfl lt ?_
    refine am_ev.step (pc' := 54) rfl rfl ?_
    refine ax_gf (p' := 57) rfl rfl O v7 ?_
    refine am_ev.step (pc' := 58) rfl rfl ?_
    refine ax_gf (p' := 61) rfl rfl O v ?_
    refine am_ev.step (pc' := 64) rfl rfl ?_
    refine am_ev.step (pc' := 65) rfl rfl ?_
    refine am_ev.step (pc' := 66) rfl rfl ?_
    refine am_ev.step (pc' := 67) rfl rfl ?_
    refine am_ev.step (pc' := 68) rfl rfl ?_
    refine am_ev.step (pc' := 70) rfl rfl ?_
    refine ax_call (z := 40) (p' := 73) (as := [_, _, _, _, _]) rfl (Or.inr (Or.inr ⟨_, rfl⟩)) rfl rfl rfl rfl rfl rfl rfl rfl (by rw [← hk]; exact ev) rfl ?_
    refine ax_aastore (p' := 74) rfl rfl WR ?_
    refine am_ev.step (pc' := 75) rfl rfl ?_
    refine am_ev.step (pc' := 76) rfl rfl ?_
    refine ax_gf (p' := 79) rfl rfl O2 f8 ?_
    refine am_ev.step (pc' := 80) rfl rfl ?_
    refine am_ev.step (pc' := 81) rfl rfl ?_
    refine ax_pf (p' := 84) rfl rfl O2 rfl ?_
    refine am_ev.step (pc' := 85) rfl rfl ?_
    refine ax_gf (p' := 88) rfl rfl O2 (ax_put_s _ _ _) ?_
    refine am_ev.step (pc' := 89) rfl rfl ?_
    refine am_ev.step (pc' := 90) rfl rfl ?_
    exact am_ev.reti rfl rfl rfl
  · rw [e2]
    exact ax_put_s _ _ _
  · rw [e2]
    exact ax_put_o (Or.inl (by omega)) ga
  · rw [e2]
    exact ax_put_o (Or.inl (by omega)) gt
  · rw [e2]
    exact ax_put_o (Or.inr hj) (go2.2.2 73 j (by omega))
  · rw [e2]
    exact ax_put_o (Or.inl (by omega)) (go2.2.2 s j h2)
  · rw [k1] at gp
    obtain ⟨p1, p2, p3, p4, p5, p6, p7, p8, p9, p10, p11⟩ := gp
    have xo : ∀ s j, 130 ≤ s → (am_put g2 40 8 (.int (m + Int32.ofInt 1))).2.2.2 s j = g.2.2.2 s j := fun s j hs => by
      rw [e2]
      exact ax_put_o (Or.inl (by omega)) (ax_put_o (Or.inl (by omega)) rfl)
    refine ⟨(xo _ _ lo).trans p1, (xo _ _ lo).trans p2, (xo _ _ lo).trans p3, (xo _ _ lo).trans p4, (xo _ _ lo).trans p5, (xo _ _ lo).trans p6, (xo _ _ lo).trans p7, fun j hj => (xo _ _ (by omega)).trans (p8 j hj), ?_, ?_, ?_⟩
    · rw [e2]
      exact p9
    · rw [e2]
      exact p10
    · rw [e2]
      exact p11
theorem pm_185f (q : ¬ po_ok a b c e) : am_ev (d + 2) 185 0 (am_ent [.ref 78, .int a, .int b, .int c, .int e] 5) [] h (some (ax_m (-2)), h) := by
  by_cases q1 : 0 ≤ a.toInt ∧ a.toInt ≤ 19
  · have H1 := (ip_186 (h := h) (d := d) (a := a)).1 q1
    by_cases q2 : 0 ≤ b.toInt ∧ b.toInt ≤ 2100
    · have H2 := (in_n (h := h) (d := d + 1) (u := b) (l := 0) (g := 2100) (by decide) (by decide)).1 q2
      by_cases q3 : 0 ≤ c.toInt ∧ c.toInt ≤ 19
      · have H3 := (in_n (h := h) (d := d + 1) (u := c) (l := 0) (g := 19) (by decide) (by decide)).1 q3
        have q4 : ¬ (0 ≤ e.toInt ∧ e.toInt ≤ 99) := fun q4 => q ⟨q1, q2, q3, q4⟩
        have H4 := (in_n (h := h) (d := d + 1) (u := e) (l := 0) (g := 99) (by decide) (by decide)).2 q4
        refine am_ev.step (pc' := 1) rfl rfl ?_
        refine ax_call (z := 186) (p' := 4) (as := [_]) rfl (Or.inl ⟨_, rfl⟩) rfl rfl rfl rfl rfl rfl rfl rfl H1 rfl ?_
        refine ax_z_eq_N (p' := 7) rfl rfl (by decide : ¬ Int32.ofInt 1 = 0) ?_
        refine am_ev.step (pc' := 8) rfl rfl ?_
        refine am_ev.step (pc' := 9) rfl rfl ?_
        refine am_ev.step (pc' := 10) rfl rfl ?_
        refine am_ev.step (pc' := 13) rfl rfl ?_
        refine ax_call (z := 165) (p' := 16) (as := [_, _, _]) rfl (Or.inl ⟨_, rfl⟩) rfl rfl rfl rfl rfl rfl rfl rfl H2 rfl ?_
        refine ax_z_eq_N (p' := 19) rfl rfl (by decide : ¬ Int32.ofInt 1 = 0) ?_
        refine am_ev.step (pc' := 20) rfl rfl ?_
        refine am_ev.step (pc' := 21) rfl rfl ?_
        refine am_ev.step (pc' := 22) rfl rfl ?_
        refine am_ev.step (pc' := 25) rfl rfl ?_
        refine ax_call (z := 165) (p' := 28) (as := [_, _, _]) rfl (Or.inl ⟨_, rfl⟩) rfl rfl rfl rfl rfl rfl rfl rfl H3 rfl ?_
        refine ax_z_eq_N (p' := 31) rfl rfl (by decide : ¬ Int32.ofInt 1 = 0) ?_
        refine am_ev.step (pc' := 33) rfl rfl ?_
        refine am_ev.step (pc' := 34) rfl rfl ?_
        refine am_ev.step (pc' := 35) rfl rfl ?_
        refine am_ev.step (pc' := 38) rfl rfl ?_
        refine ax_call (z := 165) (p' := 41) (as := [_, _, _]) rfl (Or.inl ⟨_, rfl⟩) rfl rfl rfl rfl rfl rfl rfl rfl H4 rfl ?_
        refine ax_z_ne_N (p' := 44) rfl rfl (by decide : Int32.ofInt 0 = 0) ?_
        refine am_ev.step (pc' := 46) rfl rfl ?_
        exact am_ev.reti rfl rfl rfl
      · have H3 := (in_n (h := h) (d := d + 1) (u := c) (l := 0) (g := 19) (by decide) (by decide)).2 q3
        refine am_ev.step (pc' := 1) rfl rfl ?_
        refine ax_call (z := 186) (p' := 4) (as := [_]) rfl (Or.inl ⟨_, rfl⟩) rfl rfl rfl rfl rfl rfl rfl rfl H1 rfl ?_
        refine ax_z_eq_N (p' := 7) rfl rfl (by decide : ¬ Int32.ofInt 1 = 0) ?_
        refine am_ev.step (pc' := 8) rfl rfl ?_
        refine am_ev.step (pc' := 9) rfl rfl ?_
        refine am_ev.step (pc' := 10) rfl rfl ?_
        refine am_ev.step (pc' := 13) rfl rfl ?_
        refine ax_call (z := 165) (p' := 16) (as := [_, _, _]) rfl (Or.inl ⟨_, rfl⟩) rfl rfl rfl rfl rfl rfl rfl rfl H2 rfl ?_
        refine ax_z_eq_N (p' := 19) rfl rfl (by decide : ¬ Int32.ofInt 1 = 0) ?_
        refine am_ev.step (pc' := 20) rfl rfl ?_
        refine am_ev.step (pc' := 21) rfl rfl ?_
        refine am_ev.step (pc' := 22) rfl rfl ?_
        refine am_ev.step (pc' := 25) rfl rfl ?_
        refine ax_call (z := 165) (p' := 28) (as := [_, _, _]) rfl (Or.inl ⟨_, rfl⟩) rfl rfl rfl rfl rfl rfl rfl rfl H3 rfl ?_
        refine ax_z_eq_T (p' := 44) rfl rfl (by decide : Int32.ofInt 0 = 0) ?_
        refine am_ev.step (pc' := 46) rfl rfl ?_
        exact am_ev.reti rfl rfl rfl
    · have H2 := (in_n (h := h) (d := d + 1) (u := b) (l := 0) (g := 2100) (by decide) (by decide)).2 q2
      refine am_ev.step (pc' := 1) rfl rfl ?_
      refine ax_call (z := 186) (p' := 4) (as := [_]) rfl (Or.inl ⟨_, rfl⟩) rfl rfl rfl rfl rfl rfl rfl rfl H1 rfl ?_
      refine ax_z_eq_N (p' := 7) rfl rfl (by decide : ¬ Int32.ofInt 1 = 0) ?_
      refine am_ev.step (pc' := 8) rfl rfl ?_
      refine am_ev.step (pc' := 9) rfl rfl ?_
      refine am_ev.step (pc' := 10) rfl rfl ?_
      refine am_ev.step (pc' := 13) rfl rfl ?_
      refine ax_call (z := 165) (p' := 16) (as := [_, _, _]) rfl (Or.inl ⟨_, rfl⟩) rfl rfl rfl rfl rfl rfl rfl rfl H2 rfl ?_
      refine ax_z_eq_T (p' := 44) rfl rfl (by decide : Int32.ofInt 0 = 0) ?_
      refine am_ev.step (pc' := 46) rfl rfl ?_
      exact am_ev.reti rfl rfl rfl
  · have H1 := (ip_186 (h := h) (d := d) (a := a)).2 q1
    refine am_ev.step (pc' := 1) rfl rfl ?_
    refine ax_call (z := 186) (p' := 4) (as := [_]) rfl (Or.inl ⟨_, rfl⟩) rfl rfl rfl rfl rfl rfl rfl rfl H1 rfl ?_
    refine ax_z_eq_T (p' := 44) rfl rfl (by decide : Int32.ofInt 0 = 0) ?_
    refine am_ev.step (pc' := 46) rfl rfl ?_
    exact am_ev.reti rfl rfl rfl
theorem pm_185u (I : cq_Inv none h) (q : po_ok a b c e) (v : h.2.2.2 78 16 = .int m) (hm : m.toInt = 40) : am_ev (d + 2) 185 0 (am_ent [.ref 78, .int a, .int b, .int c, .int e] 5) [] h (some (ax_m (-3)), h) := by
  have O := ax_o I (c := 78) (k := 13) (by decide +kernel)
  have H1 := (ip_186 (h := h) (d := d) (a := a)).1 q.1
  have H2 := (in_n (h := h) (d := d + 1) (u := b) (l := 0) (g := 2100) (by decide) (by decide)).1 q.2.1
  have H3 := (in_n (h := h) (d := d + 1) (u := c) (l := 0) (g := 19) (by decide) (by decide)).1 q.2.2.1
  have H4 := (in_n (h := h) (d := d + 1) (u := e) (l := 0) (g := 99) (by decide) (by decide)).1 q.2.2.2
  have eq : m = (Int8.ofInt 40).toInt32 := Int32.toInt_inj.1 (by rw [hm]; decide)
  refine am_ev.step (pc' := 1) rfl rfl ?_
  refine ax_call (z := 186) (p' := 4) (as := [_]) rfl (Or.inl ⟨_, rfl⟩) rfl rfl rfl rfl rfl rfl rfl rfl H1 rfl ?_
  refine ax_z_eq_N (p' := 7) rfl rfl (by decide : ¬ Int32.ofInt 1 = 0) ?_
  refine am_ev.step (pc' := 8) rfl rfl ?_
  refine am_ev.step (pc' := 9) rfl rfl ?_
  refine am_ev.step (pc' := 10) rfl rfl ?_
  refine am_ev.step (pc' := 13) rfl rfl ?_
  refine ax_call (z := 165) (p' := 16) (as := [_, _, _]) rfl (Or.inl ⟨_, rfl⟩) rfl rfl rfl rfl rfl rfl rfl rfl H2 rfl ?_
  refine ax_z_eq_N (p' := 19) rfl rfl (by decide : ¬ Int32.ofInt 1 = 0) ?_
  refine am_ev.step (pc' := 20) rfl rfl ?_
  refine am_ev.step (pc' := 21) rfl rfl ?_
  refine am_ev.step (pc' := 22) rfl rfl ?_
  refine am_ev.step (pc' := 25) rfl rfl ?_
  refine ax_call (z := 165) (p' := 28) (as := [_, _, _]) rfl (Or.inl ⟨_, rfl⟩) rfl rfl rfl rfl rfl rfl rfl rfl H3 rfl ?_
  refine ax_z_eq_N (p' := 31) rfl rfl (by decide : ¬ Int32.ofInt 1 = 0) ?_
  refine am_ev.step (pc' := 33) rfl rfl ?_
  refine am_ev.step (pc' := 34) rfl rfl ?_
  refine am_ev.step (pc' := 35) rfl rfl ?_
  refine am_ev.step (pc' := 38) rfl rfl ?_
  refine ax_call (z := 165) (p' := 41) (as := [_, _, _]) rfl (Or.inl ⟨_, rfl⟩) rfl rfl rfl rfl rfl rfl rfl rfl H4 rfl ?_
  refine ax_z_ne_T (p' := 47) rfl rfl (by decide : ¬ Int32.ofInt 1 = 0) ?_
  refine am_ev.step (pc' := 48) rfl rfl ?_
  refine ax_gf (p' := 51) rfl rfl O v ?_
  refine am_ev.step (pc' := 53) rfl rfl ?_
  refine ax_c_ne_N (p' := 56) rfl rfl eq ?_
  refine am_ev.step (pc' := 58) rfl rfl ?_
  exact am_ev.reti rfl rfl rfl
theorem pm_185d (I : cq_Inv none h) (q : po_ok a b c e) (v : h.2.2.2 78 16 = .int m) (hm : 0 ≤ m.toInt ∧ m.toInt < 40) : ∃ g : am_H, am_ev (d + 2) 185 0 (am_ent [.ref 78, .int a, .int b, .int c, .int e] 5) [] h (some (.int (m + Int32.ofInt 1 - Int32.ofInt 1)), g) ∧ g.2.2.2 78 16 = .int (m + Int32.ofInt 1) ∧ g.2.2.2 86 m.toInt.toNat = .int a ∧ g.2.2.2 90 m.toInt.toNat = .int (Int32.ofInt (-1)) ∧ (∀ j, j ≠ m.toInt.toNat → g.2.2.2 86 j = h.2.2.2 86 j ∧ g.2.2.2 90 j = h.2.2.2 90 j) ∧ (g.2.2.2 87 m.toInt.toNat = .int b ∧ g.2.2.2 88 m.toInt.toNat = .int c ∧ g.2.2.2 89 m.toInt.toNat = .int e) ∧ ∀ k j, k ≠ 78 → (k < 86 ∨ 90 < k ∨ j ≠ m.toInt.toNat) → g.2.2.2 k j = h.2.2.2 k j := by
  have O := ax_o I (c := 78) (k := 13) (by decide +kernel)
  have v17 := ax_rf I (c := 78) (j := 17) (k := 86) (by decide +kernel) (by decide +kernel)
  have A86 := ax_ar I (c := 86) (tc := 0) (n := 40) (by decide) (by decide +kernel)
  have v18 := ax_rf I (c := 78) (j := 18) (k := 87) (by decide +kernel) (by decide +kernel)
  have A87 := ax_ar I (c := 87) (tc := 0) (n := 40) (by decide) (by decide +kernel)
  have v19 := ax_rf I (c := 78) (j := 19) (k := 88) (by decide +kernel) (by decide +kernel)
  have A88 := ax_ar I (c := 88) (tc := 0) (n := 40) (by decide) (by decide +kernel)
  have v20 := ax_rf I (c := 78) (j := 20) (k := 89) (by decide +kernel) (by decide +kernel)
  have A89 := ax_ar I (c := 89) (tc := 0) (n := 40) (by decide) (by decide +kernel)
  have v21 := ax_rf I (c := 78) (j := 21) (k := 90) (by decide +kernel) (by decide +kernel)
  have A90 := ax_ar I (c := 90) (tc := 0) (n := 40) (by decide) (by decide +kernel)
  have H1 := (ip_186 (h := h) (d := d) (a := a)).1 q.1
  have H2 := (in_n (h := h) (d := d + 1) (u := b) (l := 0) (g := 2100) (by decide) (by decide)).1 q.2.1
  have H3 := (in_n (h := h) (d := d + 1) (u := c) (l := 0) (g := 19) (by decide) (by decide)).1 q.2.2.1
  have H4 := (in_n (h := h) (d := d + 1) (u := e) (l := 0) (g := 99) (by decide) (by decide)).1 q.2.2.2
  have ne : ¬ m = (Int8.ofInt 40).toInt32 := fun z => by
    rw [z, show (Int8.ofInt 40).toInt32.toInt = 40 by decide] at hm
    omega
  have wr : ∀ (k : am_H) (x : Nat) (u : Int32), k.1 = h.1 → k.2.2.1 = h.2.2.1 → (x < h.1 ∧ h.2.2.1 x = (1, 0, 40)) → am_wr k x m 0 (.int u) = some (am_put k x m.toInt.toNat (.int u)) := fun k x u q1 q2 A => ax_wrv (by rw [q1]; exact A.1) (by rw [q2]; exact A.2) hm.1 (by omega)
  obtain ⟨g1, e1⟩ : ∃ g1 : am_H, g1 = am_put h 86 m.toInt.toNat (.int a) := ⟨_, rfl⟩
  obtain ⟨g2, e2⟩ : ∃ g2 : am_H, g2 = am_put g1 87 m.toInt.toNat (.int b) := ⟨_, rfl⟩
  obtain ⟨g3, e3⟩ : ∃ g3 : am_H, g3 = am_put g2 88 m.toInt.toNat (.int c) := ⟨_, rfl⟩
  obtain ⟨g4, e4⟩ : ∃ g4 : am_H, g4 = am_put g3 89 m.toInt.toNat (.int e) := ⟨_, rfl⟩
  obtain ⟨g5, e5⟩ : ∃ g5 : am_H, g5 = am_put g4 90 m.toInt.toNat (.int (Int32.ofInt (-1))) := ⟨_, rfl⟩
  have p1 : g1.1 = h.1 ∧ g1.2.2.1 = h.2.2.1 := by
    rw [e1]
    exact ⟨rfl, rfl⟩
  have w1 : am_wr h 86 m 0 (.int a) = some g1 := by
    rw [e1]
    exact wr h 86 a rfl rfl A86
  have r1 : ∀ j, g1.2.2.2 78 j = h.2.2.2 78 j := fun j => by
    rw [e1]
    exact ax_put_o (Or.inl (by decide)) rfl
  have O1 : am_isO g1 78 13 = true := by
    rw [e1]
    exact O
  have p2 : g2.1 = h.1 ∧ g2.2.2.1 = h.2.2.1 := by
    rw [e2]
    exact p1
  have w2 : am_wr g1 87 m 0 (.int b) = some g2 := by
    rw [e2]
    exact wr g1 87 b p1.1 p1.2 A87
  have r2 : ∀ j, g2.2.2.2 78 j = h.2.2.2 78 j := fun j => by
    rw [e2]
    exact ax_put_o (Or.inl (by decide)) (r1 j)
  have O2 : am_isO g2 78 13 = true := by
    rw [e2]
    exact O1
  have p3 : g3.1 = h.1 ∧ g3.2.2.1 = h.2.2.1 := by
    rw [e3]
    exact p2
  have w3 : am_wr g2 88 m 0 (.int c) = some g3 := by
    rw [e3]
    exact wr g2 88 c p2.1 p2.2 A88
  have r3 : ∀ j, g3.2.2.2 78 j = h.2.2.2 78 j := fun j => by
    rw [e3]
    exact ax_put_o (Or.inl (by decide)) (r2 j)
  have O3 : am_isO g3 78 13 = true := by
    rw [e3]
    exact O2
  have p4 : g4.1 = h.1 ∧ g4.2.2.1 = h.2.2.1 := by
    rw [e4]
    exact p3
  have w4 : am_wr g3 89 m 0 (.int e) = some g4 := by
    rw [e4]
    exact wr g3 89 e p3.1 p3.2 A89
  have r4 : ∀ j, g4.2.2.2 78 j = h.2.2.2 78 j := fun j => by
    rw [e4]
    exact ax_put_o (Or.inl (by decide)) (r3 j)
  have O4 : am_isO g4 78 13 = true := by
    rw [e4]
    exact O3
  have p5 : g5.1 = h.1 ∧ g5.2.2.1 = h.2.2.1 := by
    rw [e5]
    exact p4
  have w5 : am_wr g4 90 m 0 (.int (Int32.ofInt (-1))) = some g5 := by
    rw [e5]
    exact wr g4 90 (Int32.ofInt (-1)) p4.1 p4.2 A90
  have r5 : ∀ j, g5.2.2.2 78 j = h.2.2.2 78 j := fun j => by
    rw [e5]
    exact ax_put_o (Or.inl (by decide)) (r4 j)
  have O5 : am_isO g5 78 13 = true := by
    rw [e5]
    exact O4
  refine ⟨am_put g5 78 16 (.int (m + Int32.ofInt 1)), ?_, ax_put_s _ _ _, ax_put_o (Or.inl (by decide)) ?_, ax_put_o (Or.inl (by decide)) ?_, fun j hj => ⟨ax_put_o (Or.inl (by decide)) ?_, ax_put_o (Or.inl (by decide)) ?_⟩, ⟨ax_put_o (Or.inl (by decide)) ?_, ax_put_o (Or.inl (by decide)) ?_, ax_put_o (Or.inl (by decide)) ?_⟩, fun k j n1 n2 => ax_put_o (Or.inl n1) ?_⟩
  · refine am_ev.step (pc' := 1) rfl rfl ?_
    refine ax_call (z := 186) (p' := 4) (as := [_]) rfl (Or.inl ⟨_, rfl⟩) rfl rfl rfl rfl rfl rfl rfl rfl H1 rfl ?_
    refine ax_z_eq_N (p' := 7) rfl rfl (by decide : ¬ Int32.ofInt 1 = 0) ?_
    refine am_ev.step (pc' := 8) rfl rfl ?_
    refine am_ev.step (pc' := 9) rfl rfl ?_
    refine am_ev.step (pc' := 10) rfl rfl ?_
    refine am_ev.step (pc' := 13) rfl rfl ?_
    refine ax_call (z := 165) (p' := 16) (as := [_, _, _]) rfl (Or.inl ⟨_, rfl⟩) rfl rfl rfl rfl rfl rfl rfl rfl H2 rfl ?_
    refine ax_z_eq_N (p' := 19) rfl rfl (by decide : ¬ Int32.ofInt 1 = 0) ?_
    refine am_ev.step (pc' := 20) rfl rfl ?_
    refine am_ev.step (pc' := 21) rfl rfl ?_
    refine am_ev.step (pc' := 22) rfl rfl ?_
    refine am_ev.step (pc' := 25) rfl rfl ?_
    refine ax_call (z := 165) (p' := 28) (as := [_, _, _]) rfl (Or.inl ⟨_, rfl⟩) rfl rfl rfl rfl rfl rfl rfl rfl H3 rfl ?_
    refine ax_z_eq_N (p' := 31) rfl rfl (by decide : ¬ Int32.ofInt 1 = 0) ?_
    refine am_ev.step (pc' := 33) rfl rfl ?_
    refine am_ev.step (pc' := 34) rfl rfl ?_
    refine am_ev.step (pc' := 35) rfl rfl ?_
    refine am_ev.step (pc' := 38) rfl rfl ?_
    refine ax_call (z := 165) (p' := 41) (as := [_, _, _]) rfl (Or.inl ⟨_, rfl⟩) rfl rfl rfl rfl rfl rfl rfl rfl H4 rfl ?_
    refine ax_z_ne_T (p' := 47) rfl rfl (by decide : ¬ Int32.ofInt 1 = 0) ?_
    refine am_ev.step (pc' := 48) rfl rfl ?_
    refine ax_gf (p' := 51) rfl rfl O v ?_
    refine am_ev.step (pc' := 53) rfl rfl ?_
    refine ax_c_ne_T (p' := 59) rfl rfl ne ?_
    refine am_ev.step (pc' := 60) rfl rfl ?_
    refine ax_gf (p' := 63) rfl rfl O v17 ?_
    refine am_ev.step (pc' := 64) rfl rfl ?_
    refine ax_gf (p' := 67) rfl rfl O v ?_
    refine am_ev.step (pc' := 68) rfl rfl ?_
    refine ax_iastore (p' := 69) rfl rfl w1 ?_
    refine am_ev.step (pc' := 70) rfl rfl ?_
    refine ax_gf (p' := 73) rfl rfl O1 (Eq.trans (r1 18) v18) ?_
    refine am_ev.step (pc' := 74) rfl rfl ?_
    refine ax_gf (p' := 77) rfl rfl O1 (Eq.trans (r1 16) v) ?_
    refine am_ev.step (pc' := 78) rfl rfl ?_
    refine ax_iastore (p' := 79) rfl rfl w2 ?_
    refine am_ev.step (pc' := 80) rfl rfl ?_
    refine ax_gf (p' := 83) rfl rfl O2 (Eq.trans (r2 19) v19) ?_
    refine am_ev.step (pc' := 84) rfl rfl ?_
    refine ax_gf (p' := 87) rfl rfl O2 (Eq.trans (r2 16) v) ?_
    refine am_ev.step (pc' := 88) rfl rfl ?_
    refine ax_iastore (p' := 89) rfl rfl w3 ?_
    refine am_ev.step (pc' := 90) rfl rfl ?_
    refine ax_gf (p' := 93) rfl rfl O3 (Eq.trans (r3 20) v20) ?_
    refine am_ev.step (pc' := 94) rfl rfl ?_
    refine ax_gf (p' := 97) rfl rfl O3 (Eq.trans (r3 16) v) ?_
    refine am_ev.step (pc' := 99) rfl rfl ?_
    refine ax_iastore (p' := 100) rfl rfl w4 ?_
    refine am_ev.step (pc' := 101) rfl rfl ?_
    refine ax_gf (p' := 104) rfl rfl O4 (Eq.trans (r4 21) v21) ?_
    refine am_ev.step (pc' := 105) rfl rfl ?_
    refine ax_gf (p' := 108) rfl rfl O4 (Eq.trans (r4 16) v) ?_
    refine am_ev.step (pc' := 109) rfl rfl ?_
    refine ax_iastore (p' := 110) rfl rfl w5 ?_
    refine am_ev.step (pc' := 111) rfl rfl ?_
    refine am_ev.step (pc' := 112) rfl rfl ?_
    refine ax_gf (p' := 115) rfl rfl O5 (Eq.trans (r5 16) v) ?_
    refine am_ev.step (pc' := 116) rfl rfl ?_
    refine am_ev.step (pc' := 117) rfl rfl ?_
    refine ax_pf (p' := 120) rfl rfl O5 rfl ?_
    refine am_ev.step (pc' := 121) rfl rfl ?_
    refine ax_gf (p' := 124) rfl rfl O5 (ax_put_s _ _ _) ?_
    refine am_ev.step (pc' := 125) rfl rfl ?_
    refine am_ev.step (pc' := 126) rfl rfl ?_
    exact am_ev.reti rfl rfl rfl
  · rw [e5, e4, e3, e2, e1]
    exact ax_put_o (Or.inl (by decide)) (ax_put_o (Or.inl (by decide)) (ax_put_o (Or.inl (by decide)) (ax_put_o (Or.inl (by decide)) (ax_put_s _ _ _))))
  · rw [e5]
    exact ax_put_s _ _ _
  · rw [e5, e4, e3, e2, e1]
    exact ax_put_o (Or.inl (by decide)) (ax_put_o (Or.inl (by decide)) (ax_put_o (Or.inl (by decide)) (ax_put_o (Or.inl (by decide)) (ax_put_o (Or.inr hj) rfl))))
  · rw [e5, e4, e3, e2, e1]
    exact ax_put_o (Or.inr hj) (ax_put_o (Or.inl (by decide)) (ax_put_o (Or.inl (by decide)) (ax_put_o (Or.inl (by decide)) (ax_put_o (Or.inl (by decide)) rfl))))
  · rw [e5, e4, e3, e2]
    exact ax_put_o (Or.inl (by decide)) (ax_put_o (Or.inl (by decide)) (ax_put_o (Or.inl (by decide)) (ax_put_s _ _ _)))
  · rw [e5, e4, e3]
    exact ax_put_o (Or.inl (by decide)) (ax_put_o (Or.inl (by decide)) (ax_put_s _ _ _))
  · rw [e5, e4]
    exact ax_put_o (Or.inl (by decide)) (ax_put_s _ _ _)
  · rw [e5, e4, e3, e2, e1]
    exact ax_put_o (by omega) (ax_put_o (by omega) (ax_put_o (by omega) (ax_put_o (by omega) (ax_put_o (by omega) rfl))))
end POE
end
section
/-! TRANSLATED, on both sides -/
section TRA
variable {h : am_H} {d : Nat} {p a u : Int32}
def tr_ok (a u t : Int32) : Prop := (0 ≤ a.toInt ∧ a.toInt ≤ 19) ∧ (1 ≤ u.toInt ∧ u.toInt ≤ 99) ∧ ¬ a = t
theorem tr_41n (O : am_isO h 40 11 = true) (H : am_ev d 42 0 (am_ent [.ref 40, .int p] 2) [] h (some .null, h)) : am_ev (d + 1) 41 0 (am_ent [.ref 40, .int p, .int a, .int u] 5) [] h (some (ax_m (-2)), h) := by
  refine am_ev.step (pc' := 1) rfl rfl ?_
  refine am_ev.step (pc' := 2) rfl rfl ?_
  refine ax_call (z := 42) (p' := 5) (as := [_, _]) rfl (Or.inr (Or.inl ⟨_, rfl⟩)) rfl rfl rfl rfl rfl rfl O rfl H rfl ?_
  refine am_ev.step (pc' := 7) rfl rfl ?_
  refine am_ev.step (pc' := 9) rfl rfl ?_
  refine am_ev.step (pc' := 41) rfl rfl ?_
  refine am_ev.step (pc' := 43) rfl rfl ?_
  exact am_ev.reti rfl rfl rfl
theorem tr_41f {s : Nat} {t : Int32} (O : am_isO h 40 11 = true) (H : am_ev d 42 0 (am_ent [.ref 40, .int p] 2) [] h (some (.ref s), h)) (Os : am_isO h s 6 = true) (v : h.2.2.2 s 0 = .int t) (q : ¬ tr_ok a u t) : am_ev (d + 1) 41 0 (am_ent [.ref 40, .int p, .int a, .int u] 5) [] h (some (ax_m (-2)), h) := by
  by_cases q1 : 0 ≤ a.toInt ∧ a.toInt ≤ 19
  · have H2 := (iw_39 (h := h) (d := d) (u := a) (v := (Int8.ofInt 19).toInt32)).1 (by rw [show (Int8.ofInt 19).toInt32.toInt = 19 by decide]; exact q1)
    by_cases c1 : u < Int32.ofInt 1
    · refine am_ev.step (pc' := 1) rfl rfl ?_
      refine am_ev.step (pc' := 2) rfl rfl ?_
      refine ax_call (z := 42) (p' := 5) (as := [_, _]) rfl (Or.inr (Or.inl ⟨_, rfl⟩)) rfl rfl rfl rfl rfl rfl O rfl H rfl ?_
      refine am_ev.step (pc' := 7) rfl rfl ?_
      refine am_ev.step (pc' := 9) rfl rfl ?_
      refine am_ev.step (pc' := 12) rfl rfl ?_
      refine am_ev.step (pc' := 13) rfl rfl ?_
      refine am_ev.step (pc' := 15) rfl rfl ?_
      refine ax_call (z := 39) (p' := 18) (as := [_, _]) rfl (Or.inl ⟨_, rfl⟩) rfl rfl rfl rfl rfl rfl rfl rfl H2 rfl ?_
      refine ax_z_eq_N (p' := 21) rfl rfl (by decide : ¬ Int32.ofInt 1 = 0) ?_
      refine am_ev.step (pc' := 22) rfl rfl ?_
      refine am_ev.step (pc' := 23) rfl rfl ?_
      refine ax_c_lt_T (p' := 41) rfl rfl c1 ?_
      refine am_ev.step (pc' := 43) rfl rfl ?_
      exact am_ev.reti rfl rfl rfl
    · by_cases c2 : (Int8.ofInt 99).toInt32 < u
      · refine am_ev.step (pc' := 1) rfl rfl ?_
        refine am_ev.step (pc' := 2) rfl rfl ?_
        refine ax_call (z := 42) (p' := 5) (as := [_, _]) rfl (Or.inr (Or.inl ⟨_, rfl⟩)) rfl rfl rfl rfl rfl rfl O rfl H rfl ?_
        refine am_ev.step (pc' := 7) rfl rfl ?_
        refine am_ev.step (pc' := 9) rfl rfl ?_
        refine am_ev.step (pc' := 12) rfl rfl ?_
        refine am_ev.step (pc' := 13) rfl rfl ?_
        refine am_ev.step (pc' := 15) rfl rfl ?_
        refine ax_call (z := 39) (p' := 18) (as := [_, _]) rfl (Or.inl ⟨_, rfl⟩) rfl rfl rfl rfl rfl rfl rfl rfl H2 rfl ?_
        refine ax_z_eq_N (p' := 21) rfl rfl (by decide : ¬ Int32.ofInt 1 = 0) ?_
        refine am_ev.step (pc' := 22) rfl rfl ?_
        refine am_ev.step (pc' := 23) rfl rfl ?_
        refine ax_c_lt_N (p' := 26) rfl rfl c1 ?_
        refine am_ev.step (pc' := 27) rfl rfl ?_
        refine am_ev.step (pc' := 29) rfl rfl ?_
        refine ax_c_gt_T (p' := 41) rfl rfl c2 ?_
        refine am_ev.step (pc' := 43) rfl rfl ?_
        exact am_ev.reti rfl rfl rfl
      · have c3 : a = t := by
          apply Classical.byContradiction
          intro c3
          have k1 := mt Int32.lt_iff_toInt_lt.2 c1
          have k2 := mt Int32.lt_iff_toInt_lt.2 c2
          rw [show (Int32.ofInt 1).toInt = 1 by decide] at k1
          rw [show (Int8.ofInt 99).toInt32.toInt = 99 by decide] at k2
          exact q ⟨q1, by omega, c3⟩
        refine am_ev.step (pc' := 1) rfl rfl ?_
        refine am_ev.step (pc' := 2) rfl rfl ?_
        refine ax_call (z := 42) (p' := 5) (as := [_, _]) rfl (Or.inr (Or.inl ⟨_, rfl⟩)) rfl rfl rfl rfl rfl rfl O rfl H rfl ?_
        refine am_ev.step (pc' := 7) rfl rfl ?_
        refine am_ev.step (pc' := 9) rfl rfl ?_
        refine am_ev.step (pc' := 12) rfl rfl ?_
        refine am_ev.step (pc' := 13) rfl rfl ?_
        refine am_ev.step (pc' := 15) rfl rfl ?_
        refine ax_call (z := 39) (p' := 18) (as := [_, _]) rfl (Or.inl ⟨_, rfl⟩) rfl rfl rfl rfl rfl rfl rfl rfl H2 rfl ?_
        refine ax_z_eq_N (p' := 21) rfl rfl (by decide : ¬ Int32.ofInt 1 = 0) ?_
        refine am_ev.step (pc' := 22) rfl rfl ?_
        refine am_ev.step (pc' := 23) rfl rfl ?_
        refine ax_c_lt_N (p' := 26) rfl rfl c1 ?_
        refine am_ev.step (pc' := 27) rfl rfl ?_
        refine am_ev.step (pc' := 29) rfl rfl ?_
        refine ax_c_gt_N (p' := 32) rfl rfl c2 ?_
        refine am_ev.step (pc' := 33) rfl rfl ?_
        refine am_ev.step (pc' := 35) rfl rfl ?_
        refine ax_gf (p' := 38) rfl rfl Os v ?_
        refine ax_c_ne_N (p' := 41) rfl rfl c3 ?_
        refine am_ev.step (pc' := 43) rfl rfl ?_
        exact am_ev.reti rfl rfl rfl
  · have H2 := (iw_39 (h := h) (d := d) (u := a) (v := (Int8.ofInt 19).toInt32)).2 (by rw [show (Int8.ofInt 19).toInt32.toInt = 19 by decide]; exact q1)
    refine am_ev.step (pc' := 1) rfl rfl ?_
    refine am_ev.step (pc' := 2) rfl rfl ?_
    refine ax_call (z := 42) (p' := 5) (as := [_, _]) rfl (Or.inr (Or.inl ⟨_, rfl⟩)) rfl rfl rfl rfl rfl rfl O rfl H rfl ?_
    refine am_ev.step (pc' := 7) rfl rfl ?_
    refine am_ev.step (pc' := 9) rfl rfl ?_
    refine am_ev.step (pc' := 12) rfl rfl ?_
    refine am_ev.step (pc' := 13) rfl rfl ?_
    refine am_ev.step (pc' := 15) rfl rfl ?_
    refine ax_call (z := 39) (p' := 18) (as := [_, _]) rfl (Or.inl ⟨_, rfl⟩) rfl rfl rfl rfl rfl rfl rfl rfl H2 rfl ?_
    refine ax_z_eq_T (p' := 41) rfl rfl (by decide : Int32.ofInt 0 = 0) ?_
    refine am_ev.step (pc' := 43) rfl rfl ?_
    exact am_ev.reti rfl rfl rfl
theorem tr_41s {s : Nat} {t w : Int32} (O : am_isO h 40 11 = true) (H : am_ev d 42 0 (am_ent [.ref 40, .int p] 2) [] h (some (.ref s), h)) (Os : am_isO h s 6 = true) (v : h.2.2.2 s 0 = .int t) (v4 : h.2.2.2 s 4 = .int w) (q : tr_ok a u t) (qw : ¬ w = Int32.ofInt (-1)) : am_ev (d + 1) 41 0 (am_ent [.ref 40, .int p, .int a, .int u] 5) [] h (some (ax_m (-4)), h) := by
  have H2 := (iw_39 (h := h) (d := d) (u := a) (v := (Int8.ofInt 19).toInt32)).1 (by rw [show (Int8.ofInt 19).toInt32.toInt = 19 by decide]; exact q.1)
  have c1 : ¬ u < Int32.ofInt 1 := fun z => by
    have z := Int32.lt_iff_toInt_lt.1 z
    rw [show (Int32.ofInt 1).toInt = 1 by decide] at z
    have := q.2.1
    omega
  have c2 : ¬ (Int8.ofInt 99).toInt32 < u := fun z => by
    have z := Int32.lt_iff_toInt_lt.1 z
    rw [show (Int8.ofInt 99).toInt32.toInt = 99 by decide] at z
    have := q.2.1
    omega
  refine am_ev.step (pc' := 1) rfl rfl ?_
  refine am_ev.step (pc' := 2) rfl rfl ?_
  refine ax_call (z := 42) (p' := 5) (as := [_, _]) rfl (Or.inr (Or.inl ⟨_, rfl⟩)) rfl rfl rfl rfl rfl rfl O rfl H rfl ?_
  refine am_ev.step (pc' := 7) rfl rfl ?_
  refine am_ev.step (pc' := 9) rfl rfl ?_
  refine am_ev.step (pc' := 12) rfl rfl ?_
  refine am_ev.step (pc' := 13) rfl rfl ?_
  refine am_ev.step (pc' := 15) rfl rfl ?_
  refine ax_call (z := 39) (p' := 18) (as := [_, _]) rfl (Or.inl ⟨_, rfl⟩) rfl rfl rfl rfl rfl rfl rfl rfl H2 rfl ?_
  refine ax_z_eq_N (p' := 21) rfl rfl (by decide : ¬ Int32.ofInt 1 = 0) ?_
  refine am_ev.step (pc' := 22) rfl rfl ?_
  refine am_ev.step (pc' := 23) rfl rfl ?_
  refine ax_c_lt_N (p' := 26) rfl rfl c1 ?_
  refine am_ev.step (pc' := 27) rfl rfl ?_
  refine am_ev.step (pc' := 29) rfl rfl ?_
  refine ax_c_gt_N (p' := 32) rfl rfl c2 ?_
  refine am_ev.step (pc' := 33) rfl rfl ?_
  refine am_ev.step (pc' := 35) rfl rfl ?_
  refine ax_gf (p' := 38) rfl rfl Os v ?_
  refine ax_c_ne_T (p' := 44) rfl rfl q.2.2 ?_
  refine am_ev.step (pc' := 46) rfl rfl ?_
  refine ax_gf (p' := 49) rfl rfl Os v4 ?_
  refine am_ev.step (pc' := 50) rfl rfl ?_
  refine ax_c_eq_N (p' := 53) rfl rfl qw ?_
  refine am_ev.step (pc' := 55) rfl rfl ?_
  exact am_ev.reti rfl rfl rfl
theorem tr_41d {s : Nat} {t w : Int32} (O : am_isO h 40 11 = true) (H : am_ev d 42 0 (am_ent [.ref 40, .int p] 2) [] h (some (.ref s), h)) (Os : am_isO h s 6 = true) (v : h.2.2.2 s 0 = .int t) (v4 : h.2.2.2 s 4 = .int w) (q : tr_ok a u t) (qw : w = Int32.ofInt (-1)) : am_ev (d + 1) 41 0 (am_ent [.ref 40, .int p, .int a, .int u] 5) [] h (some (.int (Int32.ofInt 1)), am_put (am_put h s 4 (.int a)) s 5 (.int u)) := by
  have H2 := (iw_39 (h := h) (d := d) (u := a) (v := (Int8.ofInt 19).toInt32)).1 (by rw [show (Int8.ofInt 19).toInt32.toInt = 19 by decide]; exact q.1)
  have c1 : ¬ u < Int32.ofInt 1 := fun z => by
    have z := Int32.lt_iff_toInt_lt.1 z
    rw [show (Int32.ofInt 1).toInt = 1 by decide] at z
    have := q.2.1
    omega
  have c2 : ¬ (Int8.ofInt 99).toInt32 < u := fun z => by
    have z := Int32.lt_iff_toInt_lt.1 z
    rw [show (Int8.ofInt 99).toInt32.toInt = 99 by decide] at z
    have := q.2.1
    omega
  refine am_ev.step (pc' := 1) rfl rfl ?_
  refine am_ev.step (pc' := 2) rfl rfl ?_
  refine ax_call (z := 42) (p' := 5) (as := [_, _]) rfl (Or.inr (Or.inl ⟨_, rfl⟩)) rfl rfl rfl rfl rfl rfl O rfl H rfl ?_
  refine am_ev.step (pc' := 7) rfl rfl ?_
  refine am_ev.step (pc' := 9) rfl rfl ?_
  refine am_ev.step (pc' := 12) rfl rfl ?_
  refine am_ev.step (pc' := 13) rfl rfl ?_
  refine am_ev.step (pc' := 15) rfl rfl ?_
  refine ax_call (z := 39) (p' := 18) (as := [_, _]) rfl (Or.inl ⟨_, rfl⟩) rfl rfl rfl rfl rfl rfl rfl rfl H2 rfl ?_
  refine ax_z_eq_N (p' := 21) rfl rfl (by decide : ¬ Int32.ofInt 1 = 0) ?_
  refine am_ev.step (pc' := 22) rfl rfl ?_
  refine am_ev.step (pc' := 23) rfl rfl ?_
  refine ax_c_lt_N (p' := 26) rfl rfl c1 ?_
  refine am_ev.step (pc' := 27) rfl rfl ?_
  refine am_ev.step (pc' := 29) rfl rfl ?_
  refine ax_c_gt_N (p' := 32) rfl rfl c2 ?_
  refine am_ev.step (pc' := 33) rfl rfl ?_
  refine am_ev.step (pc' := 35) rfl rfl ?_
  refine ax_gf (p' := 38) rfl rfl Os v ?_
  refine ax_c_ne_T (p' := 44) rfl rfl q.2.2 ?_
  refine am_ev.step (pc' := 46) rfl rfl ?_
  refine ax_gf (p' := 49) rfl rfl Os v4 ?_
  refine am_ev.step (pc' := 50) rfl rfl ?_
  refine ax_c_eq_T (p' := 56) rfl rfl qw ?_
  refine am_ev.step (pc' := 58) rfl rfl ?_
  refine am_ev.step (pc' := 59) rfl rfl ?_
  refine ax_pf (p' := 62) rfl rfl Os rfl ?_
  refine am_ev.step (pc' := 64) rfl rfl ?_
  refine am_ev.step (pc' := 65) rfl rfl ?_
  refine ax_pf (p' := 68) rfl rfl Os rfl ?_
  refine am_ev.step (pc' := 69) rfl rfl ?_
  exact am_ev.reti rfl rfl rfl
theorem tr_187n (O : am_isO h 78 13 = true) (H : am_ev (d + 1) 188 0 (am_ent [.ref 78, .int p] 2) [] h (some (.int (Int32.ofInt 0)), h)) : am_ev (d + 2) 187 0 (am_ent [.ref 78, .int p, .int a, .int u] 4) [] h (some (ax_m (-2)), h) := by
  refine am_ev.step (pc' := 1) rfl rfl ?_
  refine am_ev.step (pc' := 2) rfl rfl ?_
  refine ax_call (z := 188) (p' := 5) (as := [_, _]) rfl (Or.inr (Or.inl ⟨_, rfl⟩)) rfl rfl rfl rfl rfl rfl O rfl H rfl ?_
  refine ax_z_eq_T (p' := 37) rfl rfl (by decide : Int32.ofInt 0 = 0) ?_
  refine am_ev.step (pc' := 39) rfl rfl ?_
  exact am_ev.reti rfl rfl rfl
theorem tr_187f {t : Int32} (O : am_isO h 78 13 = true) (H : am_ev (d + 1) 188 0 (am_ent [.ref 78, .int p] 2) [] h (some (.int (Int32.ofInt 1)), h)) (v17 : h.2.2.2 78 17 = .ref 86) (rd : am_rd h 86 p (fun c => Nat.beq c 0) = some (.int t)) (q : ¬ tr_ok a u t) : am_ev (d + 2) 187 0 (am_ent [.ref 78, .int p, .int a, .int u] 4) [] h (some (ax_m (-2)), h) := by
  by_cases q1 : 0 ≤ a.toInt ∧ a.toInt ≤ 19
  · have H2 := (ip_186 (h := h) (d := d) (a := a)).1 q1
    by_cases q2 : 1 ≤ u.toInt ∧ u.toInt ≤ 99
    · have H3 := (in_n (h := h) (d := d + 1) (u := u) (l := 1) (g := 99) (by decide) (by decide)).1 q2
      have c3 : a = t := Classical.byContradiction fun c3 => q ⟨q1, q2, c3⟩
      refine am_ev.step (pc' := 1) rfl rfl ?_
      refine am_ev.step (pc' := 2) rfl rfl ?_
      refine ax_call (z := 188) (p' := 5) (as := [_, _]) rfl (Or.inr (Or.inl ⟨_, rfl⟩)) rfl rfl rfl rfl rfl rfl O rfl H rfl ?_
      refine ax_z_eq_N (p' := 8) rfl rfl (by decide : ¬ Int32.ofInt 1 = 0) ?_
      refine am_ev.step (pc' := 9) rfl rfl ?_
      refine ax_call (z := 186) (p' := 12) (as := [_]) rfl (Or.inl ⟨_, rfl⟩) rfl rfl rfl rfl rfl rfl rfl rfl H2 rfl ?_
      refine ax_z_eq_N (p' := 15) rfl rfl (by decide : ¬ Int32.ofInt 1 = 0) ?_
      refine am_ev.step (pc' := 16) rfl rfl ?_
      refine am_ev.step (pc' := 17) rfl rfl ?_
      refine am_ev.step (pc' := 18) rfl rfl ?_
      refine am_ev.step (pc' := 21) rfl rfl ?_
      refine ax_call (z := 165) (p' := 24) (as := [_, _, _]) rfl (Or.inl ⟨_, rfl⟩) rfl rfl rfl rfl rfl rfl rfl rfl H3 rfl ?_
      refine ax_z_eq_N (p' := 27) rfl rfl (by decide : ¬ Int32.ofInt 1 = 0) ?_
      refine am_ev.step (pc' := 28) rfl rfl ?_
      refine am_ev.step (pc' := 29) rfl rfl ?_
      refine ax_gf (p' := 32) rfl rfl O v17 ?_
      refine am_ev.step (pc' := 33) rfl rfl ?_
      refine ax_iaload (p' := 34) rfl rfl rd ?_
      refine ax_c_ne_N (p' := 37) rfl rfl c3 ?_
      refine am_ev.step (pc' := 39) rfl rfl ?_
      exact am_ev.reti rfl rfl rfl
    · have H3 := (in_n (h := h) (d := d + 1) (u := u) (l := 1) (g := 99) (by decide) (by decide)).2 q2
      refine am_ev.step (pc' := 1) rfl rfl ?_
      refine am_ev.step (pc' := 2) rfl rfl ?_
      refine ax_call (z := 188) (p' := 5) (as := [_, _]) rfl (Or.inr (Or.inl ⟨_, rfl⟩)) rfl rfl rfl rfl rfl rfl O rfl H rfl ?_
      refine ax_z_eq_N (p' := 8) rfl rfl (by decide : ¬ Int32.ofInt 1 = 0) ?_
      refine am_ev.step (pc' := 9) rfl rfl ?_
      refine ax_call (z := 186) (p' := 12) (as := [_]) rfl (Or.inl ⟨_, rfl⟩) rfl rfl rfl rfl rfl rfl rfl rfl H2 rfl ?_
      refine ax_z_eq_N (p' := 15) rfl rfl (by decide : ¬ Int32.ofInt 1 = 0) ?_
      refine am_ev.step (pc' := 16) rfl rfl ?_
      refine am_ev.step (pc' := 17) rfl rfl ?_
      refine am_ev.step (pc' := 18) rfl rfl ?_
      refine am_ev.step (pc' := 21) rfl rfl ?_
      refine ax_call (z := 165) (p' := 24) (as := [_, _, _]) rfl (Or.inl ⟨_, rfl⟩) rfl rfl rfl rfl rfl rfl rfl rfl H3 rfl ?_
      refine ax_z_eq_T (p' := 37) rfl rfl (by decide : Int32.ofInt 0 = 0) ?_
      refine am_ev.step (pc' := 39) rfl rfl ?_
      exact am_ev.reti rfl rfl rfl
  · have H2 := (ip_186 (h := h) (d := d) (a := a)).2 q1
    refine am_ev.step (pc' := 1) rfl rfl ?_
    refine am_ev.step (pc' := 2) rfl rfl ?_
    refine ax_call (z := 188) (p' := 5) (as := [_, _]) rfl (Or.inr (Or.inl ⟨_, rfl⟩)) rfl rfl rfl rfl rfl rfl O rfl H rfl ?_
    refine ax_z_eq_N (p' := 8) rfl rfl (by decide : ¬ Int32.ofInt 1 = 0) ?_
    refine am_ev.step (pc' := 9) rfl rfl ?_
    refine ax_call (z := 186) (p' := 12) (as := [_]) rfl (Or.inl ⟨_, rfl⟩) rfl rfl rfl rfl rfl rfl rfl rfl H2 rfl ?_
    refine ax_z_eq_T (p' := 37) rfl rfl (by decide : Int32.ofInt 0 = 0) ?_
    refine am_ev.step (pc' := 39) rfl rfl ?_
    exact am_ev.reti rfl rfl rfl
theorem tr_187s {t w : Int32} (O : am_isO h 78 13 = true) (H : am_ev (d + 1) 188 0 (am_ent [.ref 78, .int p] 2) [] h (some (.int (Int32.ofInt 1)), h)) (v17 : h.2.2.2 78 17 = .ref 86) (v21 : h.2.2.2 78 21 = .ref 90) (rd : am_rd h 86 p (fun c => Nat.beq c 0) = some (.int t)) (rd2 : am_rd h 90 p (fun c => Nat.beq c 0) = some (.int w)) (q : tr_ok a u t) (qw : ¬ w = Int32.ofInt (-1)) : am_ev (d + 2) 187 0 (am_ent [.ref 78, .int p, .int a, .int u] 4) [] h (some (ax_m (-4)), h) := by
  have H2 := (ip_186 (h := h) (d := d) (a := a)).1 q.1
  have H3 := (in_n (h := h) (d := d + 1) (u := u) (l := 1) (g := 99) (by decide) (by decide)).1 q.2.1
  refine am_ev.step (pc' := 1) rfl rfl ?_
  refine am_ev.step (pc' := 2) rfl rfl ?_
  refine ax_call (z := 188) (p' := 5) (as := [_, _]) rfl (Or.inr (Or.inl ⟨_, rfl⟩)) rfl rfl rfl rfl rfl rfl O rfl H rfl ?_
  refine ax_z_eq_N (p' := 8) rfl rfl (by decide : ¬ Int32.ofInt 1 = 0) ?_
  refine am_ev.step (pc' := 9) rfl rfl ?_
  refine ax_call (z := 186) (p' := 12) (as := [_]) rfl (Or.inl ⟨_, rfl⟩) rfl rfl rfl rfl rfl rfl rfl rfl H2 rfl ?_
  refine ax_z_eq_N (p' := 15) rfl rfl (by decide : ¬ Int32.ofInt 1 = 0) ?_
  refine am_ev.step (pc' := 16) rfl rfl ?_
  refine am_ev.step (pc' := 17) rfl rfl ?_
  refine am_ev.step (pc' := 18) rfl rfl ?_
  refine am_ev.step (pc' := 21) rfl rfl ?_
  refine ax_call (z := 165) (p' := 24) (as := [_, _, _]) rfl (Or.inl ⟨_, rfl⟩) rfl rfl rfl rfl rfl rfl rfl rfl H3 rfl ?_
  refine ax_z_eq_N (p' := 27) rfl rfl (by decide : ¬ Int32.ofInt 1 = 0) ?_
  refine am_ev.step (pc' := 28) rfl rfl ?_
  refine am_ev.step (pc' := 29) rfl rfl ?_
  refine ax_gf (p' := 32) rfl rfl O v17 ?_
  refine am_ev.step (pc' := 33) rfl rfl ?_
  refine ax_iaload (p' := 34) rfl rfl rd ?_
  refine ax_c_ne_T (p' := 40) rfl rfl q.2.2 ?_
  refine am_ev.step (pc' := 41) rfl rfl ?_
  refine ax_gf (p' := 44) rfl rfl O v21 ?_
  refine am_ev.step (pc' := 45) rfl rfl ?_
  refine ax_iaload (p' := 46) rfl rfl rd2 ?_
  refine am_ev.step (pc' := 47) rfl rfl ?_
  refine ax_c_eq_N (p' := 50) rfl rfl qw ?_
  refine am_ev.step (pc' := 52) rfl rfl ?_
  exact am_ev.reti rfl rfl rfl
theorem tr_187d {t w : Int32} (O : am_isO h 78 13 = true) (H : am_ev (d + 1) 188 0 (am_ent [.ref 78, .int p] 2) [] h (some (.int (Int32.ofInt 1)), h)) (v17 : h.2.2.2 78 17 = .ref 86) (v21 : h.2.2.2 78 21 = .ref 90) (v22 : h.2.2.2 78 22 = .ref 91) (rd : am_rd h 86 p (fun c => Nat.beq c 0) = some (.int t)) (rd2 : am_rd h 90 p (fun c => Nat.beq c 0) = some (.int w)) (q : tr_ok a u t) (qw : w = Int32.ofInt (-1)) (w1 : am_wr h 90 p 0 (.int a) = some (am_put h 90 p.toInt.toNat (.int a))) (w2 : am_wr (am_put h 90 p.toInt.toNat (.int a)) 91 p 0 (.int u) = some (am_put (am_put h 90 p.toInt.toNat (.int a)) 91 p.toInt.toNat (.int u))) : am_ev (d + 2) 187 0 (am_ent [.ref 78, .int p, .int a, .int u] 4) [] h (some (.int (Int32.ofInt 1)), am_put (am_put h 90 p.toInt.toNat (.int a)) 91 p.toInt.toNat (.int u)) := by
  have H2 := (ip_186 (h := h) (d := d) (a := a)).1 q.1
  have H3 := (in_n (h := h) (d := d + 1) (u := u) (l := 1) (g := 99) (by decide) (by decide)).1 q.2.1
  refine am_ev.step (pc' := 1) rfl rfl ?_
  refine am_ev.step (pc' := 2) rfl rfl ?_
  refine ax_call (z := 188) (p' := 5) (as := [_, _]) rfl (Or.inr (Or.inl ⟨_, rfl⟩)) rfl rfl rfl rfl rfl rfl O rfl H rfl ?_
  refine ax_z_eq_N (p' := 8) rfl rfl (by decide : ¬ Int32.ofInt 1 = 0) ?_
  refine am_ev.step (pc' := 9) rfl rfl ?_
  refine ax_call (z := 186) (p' := 12) (as := [_]) rfl (Or.inl ⟨_, rfl⟩) rfl rfl rfl rfl rfl rfl rfl rfl H2 rfl ?_
  refine ax_z_eq_N (p' := 15) rfl rfl (by decide : ¬ Int32.ofInt 1 = 0) ?_
  refine am_ev.step (pc' := 16) rfl rfl ?_
  refine am_ev.step (pc' := 17) rfl rfl ?_
  refine am_ev.step (pc' := 18) rfl rfl ?_
  refine am_ev.step (pc' := 21) rfl rfl ?_
  refine ax_call (z := 165) (p' := 24) (as := [_, _, _]) rfl (Or.inl ⟨_, rfl⟩) rfl rfl rfl rfl rfl rfl rfl rfl H3 rfl ?_
  refine ax_z_eq_N (p' := 27) rfl rfl (by decide : ¬ Int32.ofInt 1 = 0) ?_
  refine am_ev.step (pc' := 28) rfl rfl ?_
  refine am_ev.step (pc' := 29) rfl rfl ?_
  refine ax_gf (p' := 32) rfl rfl O v17 ?_
  refine am_ev.step (pc' := 33) rfl rfl ?_
  refine ax_iaload (p' := 34) rfl rfl rd ?_
  refine ax_c_ne_T (p' := 40) rfl rfl q.2.2 ?_
  refine am_ev.step (pc' := 41) rfl rfl ?_
  refine ax_gf (p' := 44) rfl rfl O v21 ?_
  refine am_ev.step (pc' := 45) rfl rfl ?_
  refine ax_iaload (p' := 46) rfl rfl rd2 ?_
  refine am_ev.step (pc' := 47) rfl rfl ?_
  refine ax_c_eq_T (p' := 53) rfl rfl qw ?_
  refine am_ev.step (pc' := 54) rfl rfl ?_
  refine ax_gf (p' := 57) rfl rfl O v21 ?_
  refine am_ev.step (pc' := 58) rfl rfl ?_
  refine am_ev.step (pc' := 59) rfl rfl ?_
  refine ax_iastore (p' := 60) rfl rfl w1 ?_
  refine am_ev.step (pc' := 61) rfl rfl ?_
  refine ax_gf (p' := 64) rfl rfl O (ax_put_o (Or.inl (by decide)) v22) ?_
  refine am_ev.step (pc' := 65) rfl rfl ?_
  refine am_ev.step (pc' := 66) rfl rfl ?_
  refine ax_iastore (p' := 67) rfl rfl w2 ?_
  refine am_ev.step (pc' := 68) rfl rfl ?_
  exact am_ev.reti rfl rfl rfl
end TRA
end
section
/-! POEMS AND CANDIDATES: what holds between both sides -/
def rp_P (h : am_H) : Prop := ∃ m : Int32, h.2.2.2 40 8 = .int m ∧ h.2.2.2 78 16 = .int m ∧ (∀ p : Nat, (p : Int) < m.toInt → ∃ (s : Nat) (t w : Int32), h.2.2.2 73 p = .ref s ∧ h.2.2.2 s 0 = .int t ∧ h.2.2.2 86 p = .int t ∧ h.2.2.2 s 4 = .int w ∧ h.2.2.2 90 p = .int w) ∧ (∀ p q : Nat, p < q → (q : Int) < m.toInt → h.2.2.2 73 p ≠ h.2.2.2 73 q)
def rp_C (h : am_H) : Prop := ∃ (n : Int32) (ν : Nat → Int32), h.2.2.2 40 13 = .int n ∧ h.2.2.2 78 53 = .int n ∧ ∀ c : Nat, (c : Int) < n.toInt → (∃ s, h.2.2.2 74 c = .ref s ∧ h.2.2.2 s 0 = .int (ν c)) ∧ h.2.2.2 117 c = .int (ν c)
def rp_Pm (m : cq_W) : Bool := lw_nF m 40 8 && lw_nF m 78 16 && lw_nA m 73 && lw_nA m 86 && lw_nA m 90 && lw_nO m 6 0 && lw_nO m 6 4
def rp_Cm (m : cq_W) : Bool := lw_nF m 40 13 && lw_nF m 78 53 && lw_nA m 74 && lw_nA m 117 && lw_nO m 1 0
/-- poems, all of them: an object's numbers and the other side's rows; the count of editions too -/
def rQ1 (h : am_H) (p s : Nat) : Prop := h.2.2.2 73 p = .ref s ∧ ∀ j, j ≤ 6 → h.2.2.2 s j = h.2.2.2 (86 + j) p
def rQ (h : am_H) : Prop := h.2.2.2 56 0 = .int (Int32.ofInt 0) ∧ ∃ m : Int32, h.2.2.2 40 8 = .int m ∧ h.2.2.2 78 16 = .int m ∧ (∀ p : Nat, (p : Int) < m.toInt → ∃ s, rQ1 h p s) ∧ ∀ p : Nat, m.toInt ≤ p → p < 40 → h.2.2.2 91 p = .int (Int32.ofInt 0) ∧ h.2.2.2 92 p = .int (Int32.ofInt 0)
def rQ_m (m : cq_W) : Bool := lw_nA m 56 && lw_nF m 40 8 && lw_nF m 78 16 && lw_nA m 73 && (List.range 7).all (fun j => lw_nA m (86 + j) && lw_nO m 6 j)
section RPF
variable {h h2 : am_H} {m : cq_W}
theorem rp_obj (I : cq_Inv none h) {p s : Nat} (hp : p < 40) (e : h.2.2.2 73 p = .ref s) : cq_kOk h s (0, 6, 0) := by
  have t := ax_ty I (c := 73) (j := p) (t := (5, 0, 0, 6, 0, 0)) (by
    rw [show Nat.blt p (cq_fix 73).2.2 = true from Nat.ble_eq_true_of_le hp]
    decide +kernel) (by
    unfold cq_ty
    rw [show cq_isA 73 = true by decide +kernel, show ((Nat.beq 73 81 || Nat.beq 73 83) && Nat.beq p 1) = false from rfl]
    show cq_ar 73 = _
    decide +kernel)
  rw [e] at t
  rcases t with t | ⟨a, t, k⟩
  · cases t
  · cases t
    exact k
theorem rp_cob (I : cq_Inv none h) {c s : Nat} (hc : c < 14) (e : h.2.2.2 74 c = .ref s) : cq_kOk h s (0, 1, 0) := by
  have t := ax_ty I (c := 74) (j := c) (t := (11, 0, 0, 1, 40, 13)) (by
    rw [show Nat.blt c (cq_fix 74).2.2 = true from Nat.ble_eq_true_of_le hc]
    decide +kernel) (by
    unfold cq_ty
    rw [show cq_isA 74 = true by decide +kernel, show ((Nat.beq 74 81 || Nat.beq 74 83) && Nat.beq c 1) = false from rfl]
    show cq_ar 74 = _
    decide +kernel)
  rw [e] at t
  rcases t with ⟨t, _⟩ | ⟨a, t, k⟩
  · cases t
  · cases t
    exact k
theorem rp_bm (I : cq_Inv none h) {x : Int32} (e : h.2.2.2 40 8 = .int x) : 0 ≤ x.toInt ∧ x.toInt ≤ 40 := by
  obtain ⟨y, ey, a, b⟩ := ax_in I (c := 40) (j := 8) (l := 0) (u := 40) (by decide +kernel) (by decide +kernel)
  rw [e] at ey
  cases ey
  exact ⟨a, b⟩
theorem rp_bn (I : cq_Inv none h) {x : Int32} (e : h.2.2.2 40 13 = .int x) : 0 ≤ x.toInt ∧ x.toInt ≤ 14 := by
  obtain ⟨y, ey, a, b⟩ := ax_in I (c := 40) (j := 13) (l := 0) (u := 14) (by decide +kernel) (by decide +kernel)
  rw [e] at ey
  cases ey
  exact ⟨a, b⟩
theorem rp_Pfr (I : cq_Inv none h) (F : cq_Fr m h h2) (q : rp_Pm m = true) (P : rp_P h) : rp_P h2 := by
  have b1 := (Bool.and_eq_true _ _ ▸ q)
  have b2 := (Bool.and_eq_true _ _ ▸ b1.1)
  have b3 := (Bool.and_eq_true _ _ ▸ b2.1)
  have b4 := (Bool.and_eq_true _ _ ▸ b3.1)
  have b5 := (Bool.and_eq_true _ _ ▸ b4.1)
  have b6 := (Bool.and_eq_true _ _ ▸ b5.1)
  obtain ⟨x, e1, e2, PP, PD⟩ := P
  have bx := rp_bm I e1
  have f73 := lw_frA F I.lo (c := 73) (by decide) b5.2
  refine ⟨x, by rw [lw_frF F I.lo (by decide) b6.1, e1], by rw [lw_frF F I.lo (by decide) b6.2, e2], fun p hp => ?_, fun p q h1 h2 => by rw [f73, f73]; exact PD p q h1 h2⟩
  obtain ⟨s, t, w, k1, k2, k3, k4, k5⟩ := PP p hp
  obtain ⟨o1, o2, o3⟩ := rp_obj I (p := p) (by omega) k1
  exact ⟨s, t, w, by rw [f73, k1], by rw [lw_frO F o1 o2 o3 b2.2, k2], by rw [lw_frA F I.lo (by decide) b4.2, k3], by rw [lw_frO F o1 o2 o3 b1.2, k4], by rw [lw_frA F I.lo (by decide) b3.2, k5]⟩
theorem rQ_fr (I : cq_Inv none h) (F : cq_Fr m h h2) (q : rQ_m m = true) (P : rQ h) : rQ h2 := by
  have b1 := (Bool.and_eq_true _ _ ▸ q)
  have b2 := (Bool.and_eq_true _ _ ▸ b1.1)
  have b3 := (Bool.and_eq_true _ _ ▸ b2.1)
  have b4 := (Bool.and_eq_true _ _ ▸ b3.1)
  obtain ⟨z, x, e1, e2, PP, PN⟩ := P
  have bx := rp_bm I e1
  have f73 := lw_frA F I.lo (c := 73) (by decide) b2.2
  have ar : ∀ j, j ≤ 6 → ∀ p, h2.2.2.2 (86 + j) p = h.2.2.2 (86 + j) p := fun j hj p => lw_frA F I.lo (by omega) (Bool.and_eq_true _ _ ▸ List.all_eq_true.1 b1.2 j (List.mem_range.2 (by omega))).1 p
  refine ⟨(lw_frA F I.lo (by decide) b4.1 0).trans z, x, by rw [lw_frF F I.lo (by decide) b4.2, e1], by rw [lw_frF F I.lo (by decide) b3.2, e2], fun p hp => ?_, fun p a1 a2 => ?_⟩
  · obtain ⟨s, k1, k2⟩ := PP p hp
    obtain ⟨o1, o2, o3⟩ := rp_obj I (p := p) (by omega) k1
    refine ⟨s, by rw [f73, k1], fun j hj => ?_⟩
    rw [lw_frO F o1 o2 o3 (Bool.and_eq_true _ _ ▸ List.all_eq_true.1 b1.2 j (List.mem_range.2 (by omega))).2, ar j hj]
    exact k2 j hj
  · rw [ar 5 (by decide), ar 6 (by decide)]
    exact PN p a1 a2
theorem rp_Cfr (I : cq_Inv none h) (F : cq_Fr m h h2) (q : rp_Cm m = true) (C : rp_C h) : rp_C h2 := by
  have b1 := (Bool.and_eq_true _ _ ▸ q)
  have b2 := (Bool.and_eq_true _ _ ▸ b1.1)
  have b3 := (Bool.and_eq_true _ _ ▸ b2.1)
  have b4 := (Bool.and_eq_true _ _ ▸ b3.1)
  obtain ⟨x, ν, e1, e2, CC⟩ := C
  have bx := rp_bn I e1
  refine ⟨x, ν, by rw [lw_frF F I.lo (by decide) b4.1, e1], by rw [lw_frF F I.lo (by decide) b4.2, e2], fun c hc => ?_⟩
  obtain ⟨⟨s, k1, k2⟩, k3⟩ := CC c hc
  obtain ⟨o1, o2, o3⟩ := rp_cob I (c := c) (by omega) k1
  exact ⟨⟨s, by rw [lw_frA F I.lo (by decide) b3.2, k1], by rw [lw_frO F o1 o2 o3 b1.2, k2]⟩, by rw [lw_frA F I.lo (by decide) b2.2, k3]⟩
end RPF
theorem ax_p1 {m : Int32} (h : 0 ≤ m.toInt ∧ m.toInt < 100) : (m + Int32.ofInt 1).toInt = m.toInt + 1 := ax_1 (by omega)
/-- what a call that changes them leaves -/
def rp_O (h h1 h2 : am_H) (m1 m2 : cq_W) : Prop := cq_Inv none h1 ∧ cq_Inv none h2 ∧ cq_Fr m1 h h1 ∧ cq_Fr m2 h1 h2 ∧ rp_P h2 ∧ rp_C h2 ∧ h2.1 ≤ h.1 + 12 ∧ h2.2.1 ≤ h.2.1 + 624
section OPC
variable {h : am_H} {d : Nat} {p : Int32}
theorem op_can (I : cq_Inv none h) (P : rp_P h) (C : rp_C h) : ∃ (a : Int32) (h1 h2 : am_H), am_ev (d + 2) 101 0 (am_ent [.ref 40, .int p] (am_in 101).2.2.1) [] h (some (.int a), h1) ∧ am_ev (d + 2) 225 0 (am_ent [.ref 78, .int p] (am_in 225).2.2.1) [] h1 (some (.int a), h2) ∧ rp_O h h1 h2 ct_101.2.2.2.1 ct_225.2.2.2.1 := by
  have P0 := P
  have C0 := C
  obtain ⟨m, m1, m2, PP, PD⟩ := P
  obtain ⟨n, ν, n1, n2, CC⟩ := C
  have bm := rp_bm I m1
  have bn := rp_bn I n1
  have lo := I.lo
  obtain ⟨r, h1, ev1, T1, I1, F1, A1, B1⟩ := sp_ap1 (A := 1) (B := 8) ok_101 rfl rfl (by decide +kernel) I (d := d + 2) (by show 2 ≤ d + 2; omega) p
  obtain ⟨r', h2, ev2, T2, I2, F2, A2, B2⟩ := sp_ap1 (A := 0) (B := 0) ok_225 rfl rfl (by decide +kernel) I1 (d := d + 2) (by show 2 ≤ d + 2; omega) p
  have O40 := ax_o I (c := 40) (k := 11) (by decide +kernel)
  have O78 := ax_o I1 (c := 78) (k := 13) (by decide +kernel)
  have k16 : h1.2.2.2 78 16 = .int m := by rw [lw_frF F1 lo (by decide) (by decide +kernel), m2]
  have k53 : h1.2.2.2 78 53 = .int n := by rw [lw_frF F1 lo (by decide) (by decide +kernel), n2]
  have k117 : ∀ j, h1.2.2.2 117 j = h.2.2.2 117 j := lw_frA F1 lo (by decide) (by decide +kernel)
  have P1 : rp_P h1 := rp_Pfr I F1 (by decide +kernel) P0
  have P2 : rp_P h2 := rp_Pfr I1 F2 (by decide +kernel) P1
  have z0 : (Int32.ofInt 0).toInt = 0 := by decide
  have fin : ∀ a : Int32, r = some (.int a) → r' = some (.int a) → rp_C h2 → ∃ (a : Int32) (h1 h2 : am_H), am_ev (d + 2) 101 0 (am_ent [.ref 40, .int p] (am_in 101).2.2.1) [] h (some (.int a), h1) ∧ am_ev (d + 2) 225 0 (am_ent [.ref 78, .int p] (am_in 225).2.2.1) [] h1 (some (.int a), h2) ∧ rp_O h h1 h2 ct_101.2.2.2.1 ct_225.2.2.2.1 := fun a e1 e2 C2 => ⟨a, h1, h2, by rw [← e1]; exact ev1, by rw [← e2]; exact ev2, I1, I2, F1, F2, P2, C2, by omega, by omega⟩
  by_cases hp : 0 ≤ p.toInt ∧ p.toInt < m.toInt
  · obtain ⟨s, t, w, s1, -⟩ := PP p.toInt.toNat (by omega)
    have H42 := (po_42 (d := d + 1) I m1 bm).1 hp
    rw [s1] at H42
    have H188 := (po_188 (d := d) O78 k16 bm).1 hp
    have top : ∀ x, am_ev (d + 2) 101 15 [.ref 40, .int p, .ref s, .int (Int32.ofInt 0)] [] h x → am_ev (d + 2) 101 0 (am_ent [.ref 40, .int p] (am_in 101).2.2.1) [] h x := fun x q => by
      refine am_ev.step (pc' := 1) rfl rfl ?_
      refine am_ev.step (pc' := 2) rfl rfl ?_
      refine ax_call (z := 42) (p' := 5) (as := [_, _]) rfl (Or.inr (Or.inl ⟨_, rfl⟩)) rfl rfl rfl rfl rfl rfl O40 rfl H42 rfl ?_
      refine am_ev.step (pc' := 6) rfl rfl ?_
      refine am_ev.step (pc' := 7) rfl rfl ?_
      refine am_ev.step (pc' := 13) rfl rfl ?_
      refine am_ev.step (pc' := 14) rfl rfl ?_
      refine am_ev.step (pc' := 15) rfl rfl ?_
      exact q
    have top2 : ∀ x, am_ev (d + 2) 225 13 [.ref 78, .int p, .int (Int32.ofInt 0)] [] h1 x → am_ev (d + 2) 225 0 (am_ent [.ref 78, .int p] (am_in 225).2.2.1) [] h1 x := fun x q => by
      refine am_ev.step (pc' := 1) rfl rfl ?_
      refine am_ev.step (pc' := 2) rfl rfl ?_
      refine ax_call (z := 188) (p' := 5) (as := [_, _]) rfl (Or.inr (Or.inl ⟨_, rfl⟩)) rfl rfl rfl rfl rfl rfl O78 rfl H188 rfl ?_
      refine ax_z_ne_T (p' := 11) rfl rfl (by decide : ¬ Int32.ofInt 1 = 0) ?_
      refine am_ev.step (pc' := 12) rfl rfl ?_
      refine am_ev.step (pc' := 13) rfl rfl ?_
      exact q
    have v12 := ax_rf I (c := 40) (j := 12) (k := 74) (by decide +kernel) (by decide +kernel)
    have v56 := ax_rf I1 (c := 78) (j := 56) (k := 117) (by decide +kernel) (by decide +kernel)
    have A74 := ax_ar I (c := 74) (tc := 5) (n := 14) (by decide) (by decide +kernel)
    have A117 := ax_ar I1 (c := 117) (tc := 0) (n := 14) (by decide) (by decide +kernel)
    have L1 := ca_101 (d := d + 2) (p := p) (pm := s) (ν := ν) O40 n1 v12 A74 bn.2 (fun c hc => by
      obtain ⟨⟨s, k1, k2⟩, -⟩ := CC c hc
      exact ⟨s, k1, ax_kO (rp_cob I (c := c) (by omega) k1), k2⟩) 14 (Int32.ofInt 0) (by omega) (by omega) (by omega)
    have L2 := ca_225 (d := d + 2) (p := p) (ν := ν) O78 k53 v56 A117 bn.2 (fun c hc => by rw [k117, (CC c hc).2]) 14 (Int32.ofInt 0) (by omega) (by omega) (by omega)
    by_cases hf : ∃ j : Nat, (Int32.ofInt 0).toInt ≤ j ∧ (j : Int) < n.toInt ∧ ν j = p
    · have q1 := ax_det ev1 (top _ (L1.1 hf))
      have q2 := ax_det ev2 (top2 _ (L2.1 hf))
      have e1 := (Prod.mk.inj q1).1
      have e2 := (Prod.mk.inj q2).1
      have e3 := (Prod.mk.inj q1).2
      have e4 := (Prod.mk.inj q2).2
      exact fin _ e1 e2 (by rw [e4, e3]; exact C0)
    · have hf' : ∀ j : Nat, (Int32.ofInt 0).toInt ≤ j → (j : Int) < n.toInt → ν j ≠ p := fun j a b c => hf ⟨j, a, b, c⟩
      by_cases hn : n.toInt < 14
      · obtain ⟨g, w1, w2, w3, w4, w5⟩ := ca_101d (d := d) (p := p) (pm := s) I n1 ⟨bn.1, hn⟩
        obtain ⟨g', u1, u2, u3, u4⟩ := ca_225d (d := d + 2) (p := p) I1 k53 ⟨bn.1, hn⟩
        have q1 := ax_det ev1 (top _ (L1.2 _ hf' w1))
        have q2 := ax_det ev2 (top2 _ (L2.2 _ hf' u1))
        have e1 := (Prod.mk.inj q1).1
        have e2 := (Prod.mk.inj q2).1
        have e3 := (Prod.mk.inj q1).2
        have e4 := (Prod.mk.inj q2).2
        refine fin _ e1 e2 ?_
        have np := ax_p1 (m := n) ⟨bn.1, by omega⟩
        have f1 : ∀ c j, c < 130 → lw_nF ct_225.2.2.2.1 c j = true → h2.2.2.2 c j = h1.2.2.2 c j := fun c j hc q => lw_frF F2 I1.lo hc q
        have f74 := lw_frA F2 I1.lo (c := 74) (by decide) (by decide +kernel)
        refine ⟨n + Int32.ofInt 1, fun c => if c = n.toInt.toNat then p else ν c, ?_, ?_, fun c hc => ⟨?_, ?_⟩⟩
        · rw [f1 40 13 (by decide) (by decide +kernel), e3]
          exact w2
        · rw [e4]
          exact u2
        · by_cases ec : c = n.toInt.toNat
          · dsimp only
            rw [if_pos ec, ec]
            refine ⟨h.1, by rw [f74, e3]; exact w3, ?_⟩
            obtain ⟨o1, o2, o3⟩ := rp_cob I1 (c := n.toInt.toNat) (s := h.1) (by omega) (by rw [e3]; exact w3)
            rw [lw_frO F2 o1 o2 o3 (by decide +kernel), e3]
            exact w4
          · dsimp only
            rw [if_neg ec]
            obtain ⟨⟨s', k1, k2⟩, -⟩ := CC c (by omega)
            obtain ⟨o1, o2, o3⟩ := rp_cob I (c := c) (by omega) k1
            have x1 : h1.2.2.2 74 c = .ref s' := by rw [e3, w5 c ec, k1]
            obtain ⟨p1, p2, p3⟩ := rp_cob I1 (c := c) (by omega) x1
            exact ⟨s', by rw [f74, x1], by rw [lw_frO F2 p1 p2 p3 (by decide +kernel), lw_frO F1 o1 o2 o3 (by decide +kernel), k2]⟩
        · by_cases ec : c = n.toInt.toNat
          · dsimp only
            rw [if_pos ec, ec, e4]
            exact u3
          · dsimp only
            rw [if_neg ec, e4, u4 c ec, k117, (CC c (by omega)).2]
      · have lt : ¬ n < (Int8.ofInt 14).toInt32 := fun z => by
          have z := Int32.lt_iff_toInt_lt.1 z
          rw [show (Int8.ofInt 14).toInt32.toInt = 14 by decide] at z
          omega
        have eq : n = (Int8.ofInt 14).toInt32 := Int32.toInt_inj.1 (by
          rw [show (Int8.ofInt 14).toInt32.toInt = 14 by decide]
          omega)
        have w1 : am_ev (d + 2) 101 45 [.ref 40, .int p, .ref s, .int n] [] h (some (ax_m (-3)), h) := by
          refine am_ev.step (pc' := 46) rfl rfl ?_
          refine ax_gf (p' := 49) rfl rfl O40 n1 ?_
          refine am_ev.step (pc' := 51) rfl rfl ?_
          refine ax_c_lt_N (p' := 54) rfl rfl lt ?_
          refine am_ev.step (pc' := 56) rfl rfl ?_
          exact am_ev.reti rfl rfl rfl
        have u1 : am_ev (d + 2) 225 40 [.ref 78, .int p, .int n] [] h1 (some (ax_m (-3)), h1) := by
          refine am_ev.step (pc' := 41) rfl rfl ?_
          refine ax_gf (p' := 44) rfl rfl O78 k53 ?_
          refine am_ev.step (pc' := 46) rfl rfl ?_
          refine ax_c_ne_N (p' := 49) rfl rfl eq ?_
          refine am_ev.step (pc' := 51) rfl rfl ?_
          exact am_ev.reti rfl rfl rfl
        have q1 := ax_det ev1 (top _ (L1.2 _ hf' w1))
        have q2 := ax_det ev2 (top2 _ (L2.2 _ hf' u1))
        have e1 := (Prod.mk.inj q1).1
        have e2 := (Prod.mk.inj q2).1
        have e3 := (Prod.mk.inj q1).2
        have e4 := (Prod.mk.inj q2).2
        exact fin _ e1 e2 (by rw [e4, e3]; exact C0)
  · have H42 := (po_42 (d := d + 1) I m1 bm).2 hp
    have H188 := (po_188 (d := d) O78 k16 bm).2 hp
    have w1 : am_ev (d + 2) 101 0 (am_ent [.ref 40, .int p] (am_in 101).2.2.1) [] h (some (ax_m (-2)), h) := by
      refine am_ev.step (pc' := 1) rfl rfl ?_
      refine am_ev.step (pc' := 2) rfl rfl ?_
      refine ax_call (z := 42) (p' := 5) (as := [_, _]) rfl (Or.inr (Or.inl ⟨_, rfl⟩)) rfl rfl rfl rfl rfl rfl O40 rfl H42 rfl ?_
      refine am_ev.step (pc' := 6) rfl rfl ?_
      refine am_ev.step (pc' := 7) rfl rfl ?_
      refine am_ev.step (pc' := 10) rfl rfl ?_
      refine am_ev.step (pc' := 12) rfl rfl ?_
      exact am_ev.reti rfl rfl rfl
    have u1 : am_ev (d + 2) 225 0 (am_ent [.ref 78, .int p] (am_in 225).2.2.1) [] h1 (some (ax_m (-2)), h1) := by
      refine am_ev.step (pc' := 1) rfl rfl ?_
      refine am_ev.step (pc' := 2) rfl rfl ?_
      refine ax_call (z := 188) (p' := 5) (as := [_, _]) rfl (Or.inr (Or.inl ⟨_, rfl⟩)) rfl rfl rfl rfl rfl rfl O78 rfl H188 rfl ?_
      refine ax_z_ne_N (p' := 8) rfl rfl (by decide : Int32.ofInt 0 = 0) ?_
      refine am_ev.step (pc' := 10) rfl rfl ?_
      exact am_ev.reti rfl rfl rfl
    have q1 := ax_det ev1 w1
    have q2 := ax_det ev2 u1
    have e1 := (Prod.mk.inj q1).1
    have e2 := (Prod.mk.inj q2).1
    have e3 := (Prod.mk.inj q1).2
    have e4 := (Prod.mk.inj q2).2
    exact fin _ e1 e2 (by rw [e4, e3]; exact C0)
end OPC
end
section
/-! POEM AND TRANSLATED: what they leave -/
section OPP
variable {h : am_H} {d : Nat} {p a b c e u : Int32}
theorem op_poe (I : cq_Inv none h) (P : rp_P h) (C : rp_C h) : ∃ (x : Int32) (h1 h2 : am_H), am_ev (d + 2) 38 0 (am_ent [.ref 40, .int a, .int b, .int c, .int e] (am_in 38).2.2.1) [] h (some (.int x), h1) ∧ am_ev (d + 2) 185 0 (am_ent [.ref 78, .int a, .int b, .int c, .int e] (am_in 185).2.2.1) [] h1 (some (.int x), h2) ∧ rp_O h h1 h2 ct_38.2.2.2.1 ct_185.2.2.2.1 ∧ (rQ h → rQ h2) := by
  have P0 := P
  obtain ⟨m, m1, m2, PP, PD⟩ := P
  have bm := rp_bm I m1
  have lo := I.lo
  obtain ⟨r, h1, ev1, T1, I1, F1, A1, B1⟩ := sp_ap4 (A := 3) (B := 15) ok_38 rfl rfl (by decide +kernel) I (d := d + 2) (by show 2 ≤ d + 2; omega) a b c e
  obtain ⟨r', h2, ev2, T2, I2, F2, A2, B2⟩ := sp_ap4 (A := 0) (B := 0) ok_185 rfl rfl (by decide +kernel) I1 (d := d + 2) (by show 2 ≤ d + 2; omega) a b c e
  have k16 : h1.2.2.2 78 16 = .int m := by rw [lw_frF F1 lo (by decide) (by decide +kernel), m2]
  have k86 : ∀ j, h1.2.2.2 86 j = h.2.2.2 86 j := lw_frA F1 lo (by decide) (by decide +kernel)
  have k90 : ∀ j, h1.2.2.2 90 j = h.2.2.2 90 j := lw_frA F1 lo (by decide) (by decide +kernel)
  have C2 : rp_C h2 := rp_Cfr I1 F2 (by decide +kernel) (rp_Cfr I F1 (by decide +kernel) C)
  have fin : ∀ x : Int32, r = some (.int x) → r' = some (.int x) → rp_P h2 → (rQ h → rQ h2) → ∃ (x : Int32) (h1 h2 : am_H), am_ev (d + 2) 38 0 (am_ent [.ref 40, .int a, .int b, .int c, .int e] (am_in 38).2.2.1) [] h (some (.int x), h1) ∧ am_ev (d + 2) 185 0 (am_ent [.ref 78, .int a, .int b, .int c, .int e] (am_in 185).2.2.1) [] h1 (some (.int x), h2) ∧ rp_O h h1 h2 ct_38.2.2.2.1 ct_185.2.2.2.1 ∧ (rQ h → rQ h2) := fun x e1 e2 P2 Q2 => ⟨x, h1, h2, by rw [← e1]; exact ev1, by rw [← e2]; exact ev2, ⟨I1, I2, F1, F2, P2, C2, by omega, by omega⟩, Q2⟩
  by_cases q : po_ok a b c e
  · by_cases hm : m.toInt < 40
    · obtain ⟨g, w1, w2, w3, w4, w5, w6, w7, w8⟩ := pc_38d (d := d) I q m1 ⟨bm.1, hm⟩
      obtain ⟨g', u1, u2, u3, u4, u5, u6, u7⟩ := pm_185d (d := d) I1 q k16 ⟨bm.1, hm⟩
      have q1 := ax_det ev1 (w1)
      have q2 := ax_det ev2 (u1)
      have e1 := (Prod.mk.inj q1).1
      have e2 := (Prod.mk.inj q2).1
      have e3 := (Prod.mk.inj q1).2
      have e4 := (Prod.mk.inj q2).2
      have mp0 := ax_p1 (m := m) ⟨bm.1, by omega⟩
      have QQ : rQ h → rQ h2 := fun Q => by
        obtain ⟨z, m', n1, n2, QP, QN⟩ := Q
        rw [m1] at n1
        cases n1
        have f73 := lw_frA F2 I1.lo (c := 73) (by decide) (by decide +kernel)
        have nw : h1.2.2.2 73 m.toInt.toNat = .ref h.1 := by
          rw [e3]
          exact w3
        have kA : ∀ c, 86 ≤ c → c ≤ 92 → ∀ j, h1.2.2.2 c j = h.2.2.2 c j := fun c a1 a2 => by
          have hc : c = 86 ∨ c = 87 ∨ c = 88 ∨ c = 89 ∨ c = 90 ∨ c = 91 ∨ c = 92 := by omega
          rcases hc with rfl | rfl | rfl | rfl | rfl | rfl | rfl <;> exact lw_frA F1 lo (by decide) (by decide +kernel)
        obtain ⟨o1, o2, o3⟩ := rp_obj I1 (p := m.toInt.toNat) (by omega) nw
        obtain ⟨y1, y2, y3, y5, y6, -⟩ := w8
        have xs : ∀ j, h2.2.2.2 h.1 j = g.2.2.2 h.1 j := fun j => (F2.vl h.1 o2 j (by
          unfold cq_inW
          rw [List.any_eq_false]
          intro w hw
          have z : (ct_185.2.2.2.1.all fun w => !w.1 && Nat.blt w.2.1 130) = true := by decide +kernel
          have y := (Bool.and_eq_true _ _ ▸ List.all_eq_true.1 z w hw)
          have y1 : w.1 = false := by simpa using y.1
          have y2 : w.2.1 < 130 := Nat.le_of_ble_eq_true y.2
          rw [y1, dh_bne (show w.2.1 ≠ h.1 by omega)]
          simp)).trans (by rw [e3])
        obtain ⟨N1, N2⟩ := QN m.toInt.toNat (by omega) (by omega)
        refine ⟨?_, m + Int32.ofInt 1, ?_, ?_, fun p hp => ?_, fun p a1 a2 => ?_⟩
        · rw [lw_frA F2 I1.lo (c := 56) (by decide) (by decide +kernel), lw_frA F1 lo (c := 56) (by decide) (by decide +kernel)]
          exact z
        · rw [lw_frF F2 I1.lo (by decide) (by decide +kernel), e3]
          exact w2
        · rw [e4]
          exact u2
        · by_cases ep : p = m.toInt.toNat
          · subst ep
            refine ⟨h.1, by rw [f73, nw], fun j hj => ?_⟩
            rw [xs, e4]
            have hj : j = 0 ∨ j = 1 ∨ j = 2 ∨ j = 3 ∨ j = 4 ∨ j = 5 ∨ j = 6 := by omega
            rcases hj with rfl | rfl | rfl | rfl | rfl | rfl | rfl
            · exact w4.trans u3.symm
            · exact y1.trans u6.1.symm
            · exact y2.trans u6.2.1.symm
            · exact y3.trans u6.2.2.symm
            · exact w5.trans u4.symm
            · exact y5.trans ((u7 91 _ (by decide) (by omega)).trans ((kA 91 (by decide) (by decide) _).trans N1)).symm
            · exact y6.trans ((u7 92 _ (by decide) (by omega)).trans ((kA 92 (by decide) (by decide) _).trans N2)).symm
          · obtain ⟨s, k1, k2⟩ := QP p (by omega)
            obtain ⟨p1, p2, p3⟩ := rp_obj I (p := p) (by omega) k1
            refine ⟨s, by rw [f73, e3, w6 p ep, k1], fun j hj => ?_⟩
            have x1 : h2.2.2.2 s j = h1.2.2.2 s j := F2.vl s (by omega) j (by
              unfold cq_inW
              rw [List.any_eq_false]
              intro w hw
              have z : (ct_185.2.2.2.1.all fun w => !w.1 && Nat.blt w.2.1 130) = true := by decide +kernel
              have y := (Bool.and_eq_true _ _ ▸ List.all_eq_true.1 z w hw)
              have y1 : w.1 = false := by simpa using y.1
              have y2 : w.2.1 < 130 := Nat.le_of_ble_eq_true y.2
              rw [y1, dh_bne (show w.2.1 ≠ s by omega)]
              simp)
            rw [x1, e3, w7 s j p1 p2, e4, u7 (86 + j) p (by omega) (by omega), kA (86 + j) (by omega) (by omega)]
            exact k2 j hj
        · rw [e4, u7 91 p (by decide) (by omega), u7 92 p (by decide) (by omega), kA 91 (by decide) (by decide), kA 92 (by decide) (by decide)]
          exact QN p (by omega) a2
      refine fin _ e1 e2 ?_ QQ
      have mp := ax_p1 (m := m) ⟨bm.1, by omega⟩
      have f73 := lw_frA F2 I1.lo (c := 73) (by decide) (by decide +kernel)
      have x73 : ∀ j, h2.2.2.2 73 j = g.2.2.2 73 j := fun j => by rw [f73, e3]
      have nw : h1.2.2.2 73 m.toInt.toNat = .ref h.1 := by
        rw [e3]
        exact w3
      refine ⟨m + Int32.ofInt 1, ?_, ?_, fun p hp => ?_, fun p q h1 h2 => ?_⟩
      · rw [lw_frF F2 I1.lo (by decide) (by decide +kernel), e3]
        exact w2
      · rw [e4]
        exact u2
      · by_cases ep : p = m.toInt.toNat
        · subst ep
          obtain ⟨o1, o2, o3⟩ := rp_obj I1 (p := m.toInt.toNat) (by omega) nw
          refine ⟨h.1, a, Int32.ofInt (-1), by rw [f73, nw], ?_, by rw [e4]; exact u3, ?_, by rw [e4]; exact u4⟩
          · rw [lw_frO F2 o1 o2 o3 (by decide +kernel), e3]
            exact w4
          · rw [lw_frO F2 o1 o2 o3 (by decide +kernel), e3]
            exact w5
        · obtain ⟨s, t, w, k1, k2, k3, k4, k5⟩ := PP p (by omega)
          obtain ⟨o1, o2, o3⟩ := rp_obj I (p := p) (by omega) k1
          have y1 : h1.2.2.2 73 p = .ref s := by rw [e3, w6 p ep, k1]
          obtain ⟨p1, p2, p3⟩ := rp_obj I1 (p := p) (by omega) y1
          obtain ⟨v1, v2⟩ := u5 p ep
          refine ⟨s, t, w, by rw [f73, y1], ?_, by rw [e4, v1, k86, k3], ?_, by rw [e4, v2, k90, k5]⟩
          · rw [lw_frO F2 p1 p2 p3 (by decide +kernel), e3, w7 s 0 o1 o2, k2]
          · rw [lw_frO F2 p1 p2 p3 (by decide +kernel), e3, w7 s 4 o1 o2, k4]
      · rw [x73, x73]
        by_cases eq : q = m.toInt.toNat
        · subst eq
          obtain ⟨s, t, w, k1, -⟩ := PP p (by omega)
          obtain ⟨o1, o2, o3⟩ := rp_obj I (p := p) (by omega) k1
          rw [w6 p (by omega), k1, w3]
          intro z
          cases z
          omega
        · rw [w6 p (by omega), w6 q eq]
          exact PD p q h1 (by omega)
    · have w1 := pc_38u (d := d + 1) I q m1 (by omega)
      have u1 := pm_185u (d := d) I1 q k16 (by omega)
      have q1 := ax_det ev1 (w1)
      have q2 := ax_det ev2 (u1)
      have e1 := (Prod.mk.inj q1).1
      have e2 := (Prod.mk.inj q2).1
      have e3 := (Prod.mk.inj q1).2
      have e4 := (Prod.mk.inj q2).2
      exact fin _ e1 e2 (by rw [e4, e3]; exact P0) (fun Q => by rw [e4, e3]; exact Q)
  · have w1 := pc_38f (h := h) (d := d + 1) q
    have u1 := pm_185f (h := h1) (d := d) q
    have q1 := ax_det ev1 (w1)
    have q2 := ax_det ev2 (u1)
    have e1 := (Prod.mk.inj q1).1
    have e2 := (Prod.mk.inj q2).1
    have e3 := (Prod.mk.inj q1).2
    have e4 := (Prod.mk.inj q2).2
    exact fin _ e1 e2 (by rw [e4, e3]; exact P0) (fun Q => by rw [e4, e3]; exact Q)
theorem op_tra (I : cq_Inv none h) (P : rp_P h) (C : rp_C h) : ∃ (x : Int32) (h1 h2 : am_H), am_ev (d + 2) 41 0 (am_ent [.ref 40, .int p, .int a, .int u] (am_in 41).2.2.1) [] h (some (.int x), h1) ∧ am_ev (d + 2) 187 0 (am_ent [.ref 78, .int p, .int a, .int u] (am_in 187).2.2.1) [] h1 (some (.int x), h2) ∧ rp_O h h1 h2 ct_41.2.2.2.1 ct_187.2.2.2.1 ∧ (rQ h → rQ h2) := by
  have P0 := P
  obtain ⟨m, m1, m2, PP, PD⟩ := P
  have bm := rp_bm I m1
  have lo := I.lo
  obtain ⟨r, h1, ev1, T1, I1, F1, A1, B1⟩ := sp_ap3 (A := 0) (B := 0) ok_41 rfl rfl (by decide +kernel) I (d := d + 2) (by show 1 ≤ d + 2; omega) p a u
  obtain ⟨r', h2, ev2, T2, I2, F2, A2, B2⟩ := sp_ap3 (A := 0) (B := 0) ok_187 rfl rfl (by decide +kernel) I1 (d := d + 2) (by show 2 ≤ d + 2; omega) p a u
  have O40 := ax_o I (c := 40) (k := 11) (by decide +kernel)
  have O78 := ax_o I1 (c := 78) (k := 13) (by decide +kernel)
  have k16 : h1.2.2.2 78 16 = .int m := by rw [lw_frF F1 lo (by decide) (by decide +kernel), m2]
  have k86 : ∀ j, h1.2.2.2 86 j = h.2.2.2 86 j := lw_frA F1 lo (by decide) (by decide +kernel)
  have k90 : ∀ j, h1.2.2.2 90 j = h.2.2.2 90 j := lw_frA F1 lo (by decide) (by decide +kernel)
  have C2 : rp_C h2 := rp_Cfr I1 F2 (by decide +kernel) (rp_Cfr I F1 (by decide +kernel) C)
  have fin : ∀ x : Int32, r = some (.int x) → r' = some (.int x) → rp_P h2 → (rQ h → rQ h2) → ∃ (x : Int32) (h1 h2 : am_H), am_ev (d + 2) 41 0 (am_ent [.ref 40, .int p, .int a, .int u] (am_in 41).2.2.1) [] h (some (.int x), h1) ∧ am_ev (d + 2) 187 0 (am_ent [.ref 78, .int p, .int a, .int u] (am_in 187).2.2.1) [] h1 (some (.int x), h2) ∧ rp_O h h1 h2 ct_41.2.2.2.1 ct_187.2.2.2.1 ∧ (rQ h → rQ h2) := fun x e1 e2 P2 Q2 => ⟨x, h1, h2, by rw [← e1]; exact ev1, by rw [← e2]; exact ev2, ⟨I1, I2, F1, F2, P2, C2, by omega, by omega⟩, Q2⟩
  by_cases hp : 0 ≤ p.toInt ∧ p.toInt < m.toInt
  · obtain ⟨s, t, w, s1, s2, s3, s4, s5⟩ := PP p.toInt.toNat (by omega)
    have H42 := (po_42 (d := d + 1) I m1 bm).1 hp
    rw [s1] at H42
    have H188 := (po_188 (d := d) O78 k16 bm).1 hp
    have ko := rp_obj I (p := p.toInt.toNat) (by omega) s1
    have Os := ax_kO ko
    obtain ⟨o1, o2, o3⟩ := ko
    have v17 := ax_rf I1 (c := 78) (j := 17) (k := 86) (by decide +kernel) (by decide +kernel)
    have v21 := ax_rf I1 (c := 78) (j := 21) (k := 90) (by decide +kernel) (by decide +kernel)
    have v22 := ax_rf I1 (c := 78) (j := 22) (k := 91) (by decide +kernel) (by decide +kernel)
    have A86 := ax_ar I1 (c := 86) (tc := 0) (n := 40) (by decide) (by decide +kernel)
    have A90 := ax_ar I1 (c := 90) (tc := 0) (n := 40) (by decide) (by decide +kernel)
    have A91 := ax_ar I1 (c := 91) (tc := 0) (n := 40) (by decide) (by decide +kernel)
    have rd1 : am_rd h1 86 p (fun c => Nat.beq c 0) = some (.int t) := by
      rw [ax_rdv A86.1 A86.2 (by decide) (by decide) hp.1 (by omega), k86, s3]
    have rd2 : am_rd h1 90 p (fun c => Nat.beq c 0) = some (.int w) := by
      rw [ax_rdv A90.1 A90.2 (by decide) (by decide) hp.1 (by omega), k90, s5]
    by_cases q : tr_ok a u t
    · by_cases qw : w = Int32.ofInt (-1)
      · have w1 := tr_41d (d := d + 1) O40 H42 Os s2 s4 q qw
        have u1 := tr_187d (d := d) O78 H188 v17 v21 v22 rd1 rd2 q qw (ax_wrv A90.1 A90.2 hp.1 (by omega)) (ax_wrv A91.1 A91.2 hp.1 (by omega))
        have q1 := ax_det ev1 (w1)
        have q2 := ax_det ev2 (u1)
        have e1 := (Prod.mk.inj q1).1
        have e2 := (Prod.mk.inj q2).1
        have e3 := (Prod.mk.inj q1).2
        have e4 := (Prod.mk.inj q2).2
        have QQ : rQ h → rQ h2 := fun Q => by
          obtain ⟨z, m', n1, n2, QP, QN⟩ := Q
          rw [m1] at n1
          cases n1
          have j1 : ∀ c j, (c ≠ s ∨ (j ≠ 4 ∧ j ≠ 5)) → h1.2.2.2 c j = h.2.2.2 c j := fun c j hc => by
            rw [e3]
            exact ax_put_o (by omega) (ax_put_o (by omega) rfl)
          have j2 : ∀ c j, (c < 90 ∨ 91 < c ∨ j ≠ p.toInt.toNat) → h2.2.2.2 c j = h1.2.2.2 c j := fun c j hc => by
            rw [e4]
            exact ax_put_o (by omega) (ax_put_o (by omega) rfl)
          refine ⟨by rw [j2 56 0 (by omega), j1 56 0 (by omega), z], m, by rw [j2 40 8 (by omega), j1 40 8 (by omega), m1], by rw [j2 78 16 (by omega), k16], fun p' hp' => ?_, fun p' a1 a2 => ?_⟩
          · by_cases ep : p' = p.toInt.toNat
            · subst ep
              obtain ⟨s', l1, l2⟩ := QP p.toInt.toNat hp'
              rw [s1] at l1
              cases l1
              refine ⟨s, by rw [j2 73 _ (by omega), j1 73 _ (by omega), s1], fun j hj => ?_⟩
              have hj' : j = 4 ∨ j = 5 ∨ (j ≠ 4 ∧ j ≠ 5) := by omega
              rcases hj' with rfl | rfl | hj'
              · rw [j2 s 4 (by omega), e4, e3]
                exact Eq.trans (ax_put_o (Or.inr (by decide)) (ax_put_s _ _ _)) (Eq.symm (ax_put_o (Or.inl (by decide)) (ax_put_s _ _ _)))
              · rw [j2 s 5 (by omega), e4, e3]
                exact Eq.trans (ax_put_s _ _ _) (Eq.symm (ax_put_s _ _ _))
              · rw [j2 s j (by omega), j1 s j (Or.inr hj'), j2 (86 + j) _ (by omega), j1 (86 + j) _ (by omega)]
                exact l2 j hj
            · obtain ⟨s', l1, l2⟩ := QP p' hp'
              obtain ⟨b1, b2, b3⟩ := rp_obj I (p := p') (by omega) l1
              have l0 := l1
              have ne : s' ≠ s := fun z => by
                rw [z, ← s1] at l1
                rcases Nat.lt_or_gt_of_ne ep with y | y
                · exact PD p' _ y (by omega) l1
                · exact PD _ p' y hp' l1.symm
              refine ⟨s', by rw [j2 73 _ (by omega), j1 73 _ (by omega), l0], fun j hj => ?_⟩
              rw [j2 s' j (by omega), j1 s' j (Or.inl ne), j2 (86 + j) _ (Or.inr (Or.inr ep)), j1 (86 + j) _ (by omega)]
              exact l2 j hj
          · rw [j2 91 p' (by omega), j2 92 p' (by omega), j1 91 p' (by omega), j1 92 p' (by omega)]
            exact QN p' a1 a2
        refine fin _ e1 e2 ?_ QQ
        have j1 : ∀ c j, c ≠ s → h1.2.2.2 c j = h.2.2.2 c j := fun c j hc => by
          rw [e3]
          exact ax_put_o (Or.inl hc) (ax_put_o (Or.inl hc) rfl)
        have j2 : ∀ c j, c ≠ 90 → c ≠ 91 → h2.2.2.2 c j = h1.2.2.2 c j := fun c j hc hd => by
          rw [e4]
          exact ax_put_o (Or.inl hd) (ax_put_o (Or.inl hc) rfl)
        have x0 : h1.2.2.2 s 0 = .int t := by
          rw [e3]
          exact ax_put_o (Or.inr (by decide)) (ax_put_o (Or.inr (by decide)) s2)
        have x4 : h1.2.2.2 s 4 = .int a := by
          rw [e3]
          exact ax_put_o (Or.inr (by decide)) (ax_put_s _ _ _)
        have x90 : h2.2.2.2 90 p.toInt.toNat = .int a := by
          rw [e4]
          exact ax_put_o (Or.inl (by decide)) (ax_put_s _ _ _)
        have x91 : ∀ j, j ≠ p.toInt.toNat → h2.2.2.2 90 j = h1.2.2.2 90 j := fun j hj => by
          rw [e4]
          exact ax_put_o (Or.inl (by decide)) (ax_put_o (Or.inr hj) rfl)
        have y73 : ∀ j, h2.2.2.2 73 j = h.2.2.2 73 j := fun j => by rw [j2 73 j (by decide) (by decide), j1 73 j (by omega)]
        refine ⟨m, by rw [j2 40 8 (by decide) (by decide), j1 40 8 (by omega), m1], by rw [j2 78 16 (by decide) (by decide), k16], fun p' hp' => ?_, fun p' q' z1 z2 => by rw [y73, y73]; exact PD p' q' z1 z2⟩
        by_cases ep : p' = p.toInt.toNat
        · rw [ep]
          exact ⟨s, t, a, by rw [y73, s1], by rw [j2 s 0 (by omega) (by omega), x0], by rw [j2 86 _ (by decide) (by decide), k86, s3], by rw [j2 s 4 (by omega) (by omega), x4], x90⟩
        · obtain ⟨s', t', w', l1, l2, l3, l4, l5⟩ := PP p' hp'
          obtain ⟨b1, b2, b3⟩ := rp_obj I (p := p') (by omega) l1
          have ne : s' ≠ s := fun z => by
            rw [z, ← s1] at l1
            rcases Nat.lt_or_gt_of_ne ep with y | y
            · exact PD p' _ y (by omega) l1
            · exact PD _ p' y hp' l1.symm
          exact ⟨s', t', w', by rw [y73, l1], by rw [j2 s' 0 (by omega) (by omega), j1 s' 0 ne, l2], by rw [j2 86 _ (by decide) (by decide), k86, l3], by rw [j2 s' 4 (by omega) (by omega), j1 s' 4 ne, l4], by rw [x91 p' ep, k90, l5]⟩
      · have w1 := tr_41s (d := d + 1) O40 H42 Os s2 s4 q qw
        have u1 := tr_187s (d := d) O78 H188 v17 v21 rd1 rd2 q qw
        have q1 := ax_det ev1 (w1)
        have q2 := ax_det ev2 (u1)
        have e1 := (Prod.mk.inj q1).1
        have e2 := (Prod.mk.inj q2).1
        have e3 := (Prod.mk.inj q1).2
        have e4 := (Prod.mk.inj q2).2
        exact fin _ e1 e2 (by rw [e4, e3]; exact P0) (fun Q => by rw [e4, e3]; exact Q)
    · have w1 := tr_41f (d := d + 1) O40 H42 Os s2 q
      have u1 := tr_187f (d := d) O78 H188 v17 rd1 q
      have q1 := ax_det ev1 (w1)
      have q2 := ax_det ev2 (u1)
      have e1 := (Prod.mk.inj q1).1
      have e2 := (Prod.mk.inj q2).1
      have e3 := (Prod.mk.inj q1).2
      have e4 := (Prod.mk.inj q2).2
      exact fin _ e1 e2 (by rw [e4, e3]; exact P0) (fun Q => by rw [e4, e3]; exact Q)
  · have H42 := (po_42 (d := d + 1) I m1 bm).2 hp
    have H188 := (po_188 (d := d) O78 k16 bm).2 hp
    have w1 := tr_41n (a := a) (u := u) (d := d + 1) O40 H42
    have u1 := tr_187n (a := a) (u := u) (d := d) O78 H188
    have q1 := ax_det ev1 (w1)
    have q2 := ax_det ev2 (u1)
    have e1 := (Prod.mk.inj q1).1
    have e2 := (Prod.mk.inj q2).1
    have e3 := (Prod.mk.inj q1).2
    have e4 := (Prod.mk.inj q2).2
    exact fin _ e1 e2 (by rw [e4, e3]; exact P0) (fun Q => by rw [e4, e3]; exact Q)
end OPP
section OPQ
variable {h : am_H} {d : Nat}
theorem oq_poe (I : cq_Inv none h) (P : rp_P h) (C : rp_C h) (w1 w2 w3 w4 : Int32) : ∃ (x : Int32) (h1 h2 : am_H), am_ev (d + 8) 38 0 (am_ent [.ref 40, .int w1, .int w2, .int w3, .int w4] (am_in 38).2.2.1) [] h (some (.int x), h1) ∧ am_ev (d + 8) 185 0 (am_ent [.ref 78, .int w1, .int w2, .int w3, .int w4] (am_in 185).2.2.1) [] h1 (some (.int x), h2) ∧ cq_Inv none h1 ∧ cq_Inv none h2 ∧ cq_Fr ct_38.2.2.2.1 h h1 ∧ cq_Fr ct_185.2.2.2.1 h1 h2 ∧ (∀ q ∈ [((40 : Nat), (8 : Nat), (78 : Nat), (16 : Nat))], tT h2 q) ∧ rp_P h2 ∧ rp_C h2 ∧ (rQ h → rQ h2) ∧ h2.1 ≤ h.1 + 12 ∧ h2.2.1 ≤ h.2.1 + 624 := by
  obtain ⟨x, h1, h2, a1, a2, ⟨I1, I2, F1, F2, P2, C2, b1, b2⟩, Q2⟩ := op_poe (d := d + 6) (a := w1) (b := w2) (c := w3) (e := w4) I P C
  refine ⟨x, h1, h2, a1, a2, I1, I2, F1, F2, fun q hq => ?_, P2, C2, Q2, b1, b2⟩
  rw [List.mem_singleton.1 hq]
  obtain ⟨m, m1, m2, -⟩ := P2
  exact ⟨m, m1, m2⟩
theorem oq_tra (I : cq_Inv none h) (P : rp_P h) (C : rp_C h) (w1 w2 w3 : Int32) : ∃ (x : Int32) (h1 h2 : am_H), am_ev (d + 8) 41 0 (am_ent [.ref 40, .int w1, .int w2, .int w3] (am_in 41).2.2.1) [] h (some (.int x), h1) ∧ am_ev (d + 8) 187 0 (am_ent [.ref 78, .int w1, .int w2, .int w3] (am_in 187).2.2.1) [] h1 (some (.int x), h2) ∧ cq_Inv none h1 ∧ cq_Inv none h2 ∧ cq_Fr ct_41.2.2.2.1 h h1 ∧ cq_Fr ct_187.2.2.2.1 h1 h2 ∧ (∀ q ∈ [((40 : Nat), (8 : Nat), (78 : Nat), (16 : Nat))], tT h2 q) ∧ rp_P h2 ∧ rp_C h2 ∧ (rQ h → rQ h2) ∧ h2.1 ≤ h.1 + 12 ∧ h2.2.1 ≤ h.2.1 + 624 := by
  obtain ⟨x, h1, h2, a1, a2, ⟨I1, I2, F1, F2, P2, C2, b1, b2⟩, Q2⟩ := op_tra (d := d + 6) (p := w1) (a := w2) (u := w3) I P C
  refine ⟨x, h1, h2, a1, a2, I1, I2, F1, F2, fun q hq => ?_, P2, C2, Q2, b1, b2⟩
  rw [List.mem_singleton.1 hq]
  obtain ⟨m, m1, m2, -⟩ := P2
  exact ⟨m, m1, m2⟩
theorem oq_can (I : cq_Inv none h) (P : rp_P h) (C : rp_C h) (w1 : Int32) : ∃ (x : Int32) (h1 h2 : am_H), am_ev (d + 8) 101 0 (am_ent [.ref 40, .int w1] (am_in 101).2.2.1) [] h (some (.int x), h1) ∧ am_ev (d + 8) 225 0 (am_ent [.ref 78, .int w1] (am_in 225).2.2.1) [] h1 (some (.int x), h2) ∧ cq_Inv none h1 ∧ cq_Inv none h2 ∧ cq_Fr ct_101.2.2.2.1 h h1 ∧ cq_Fr ct_225.2.2.2.1 h1 h2 ∧ (∀ q ∈ [((40 : Nat), (8 : Nat), (78 : Nat), (16 : Nat))], tT h2 q) ∧ rp_P h2 ∧ rp_C h2 ∧ h2.1 ≤ h.1 + 12 ∧ h2.2.1 ≤ h.2.1 + 624 := by
  obtain ⟨x, h1, h2, a1, a2, I1, I2, F1, F2, P2, C2, b1, b2⟩ := op_can (d := d + 6) (p := w1) I P C
  refine ⟨x, h1, h2, a1, a2, I1, I2, F1, F2, fun q hq => ?_, P2, C2, b1, b2⟩
  rw [List.mem_singleton.1 hq]
  obtain ⟨m, m1, m2, -⟩ := P2
  exact ⟨m, m1, m2⟩
end OPQ
end
