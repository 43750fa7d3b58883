/-! POEM, on both sides -/
/-- what a heap has below a cell stays -/
def ax_old (n : Nat) (h g : am_H) : Prop := h.1 ≤ g.1 ∧ (∀ c, c < n → g.2.2.1 c = h.2.2.1 c) ∧ ∀ c j, c < n → g.2.2.2 c j = h.2.2.2 c j
section OLD
variable {n : Nat} {h g : am_H}
theorem ax_old.rf : ax_old n h h := ⟨Nat.le_refl _, fun _ _ => rfl, fun _ _ _ => rfl⟩
theorem ax_old.put (q : ax_old n h g) {k j : Nat} {v : Value} (hk : n ≤ k) : ax_old n h (am_put g k j v) := ⟨q.1, q.2.1, fun c i hc => ax_put_o (Or.inl (by omega)) (q.2.2 c i hc)⟩
theorem ax_old.mk (q : ax_old n h g) {sh : am_Sh} {N : Nat} {d : Nat → Value} (hn : n ≤ g.1) : ax_old n h (am_mk g sh N d) := ⟨Nat.le_succ_of_le q.1, fun c hc => by
    show (if c = g.1 then sh else g.2.2.1 c) = _
    rw [if_neg (by omega)]
    exact q.2.1 c hc, fun c j hc => by
    show (if c = g.1 then d j else g.2.2.2 c j) = _
    rw [if_neg (by omega)]
    exact q.2.2 c j hc⟩
theorem ax_old.isO (q : ax_old n h g) {c k : Nat} (hc : c < n) (z : am_isO h c k = true) : am_isO g c k = true := by
  unfold am_isO at z ⊢
  have q1 := (Bool.and_eq_true _ _ ▸ z)
  have q2 := (Bool.and_eq_true _ _ ▸ q1.1)
  have q3 : c < h.1 := Nat.le_of_ble_eq_true q2.1
  rw [q.2.1 c hc, q2.2, q1.2, show Nat.blt c g.1 = true from Nat.ble_eq_true_of_le (Nat.lt_of_lt_of_le q3 q.1)]
  rfl
end OLD
section POE
variable {h : am_H} {d : Nat} {m a b c e : Int32}
theorem iw_39 {u v : Int32} : (0 ≤ u.toInt ∧ u.toInt ≤ v.toInt → am_ev d 39 0 (am_ent [.int u, .int v] 2) [] h (some (.int (Int32.ofInt 1)), h)) ∧ (¬ (0 ≤ u.toInt ∧ u.toInt ≤ v.toInt) → am_ev d 39 0 (am_ent [.int u, .int v] 2) [] h (some (.int (Int32.ofInt 0)), h)) := by
  have z0 : (0 : Int32).toInt = 0 := by decide
  refine ⟨fun q => ?_, fun q => ?_⟩
  · have c1 : ¬ u < 0 := fun z => by
      have := Int32.lt_iff_toInt_lt.1 z
      omega
    have c2 : ¬ v < u := fun z => by
      have := Int32.lt_iff_toInt_lt.1 z
      omega
    refine am_ev.step (pc' := 1) rfl rfl ?_
    refine ax_z_lt_N (p' := 4) rfl rfl c1 ?_
    refine am_ev.step (pc' := 5) rfl rfl ?_
    refine am_ev.step (pc' := 6) rfl rfl ?_
    refine ax_c_gt_N (p' := 9) rfl rfl c2 ?_
    refine am_ev.step (pc' := 10) rfl rfl ?_
    refine am_ev.step (pc' := 14) rfl rfl ?_
    exact am_ev.reti rfl rfl rfl
  · by_cases c1 : u < 0
    · refine am_ev.step (pc' := 1) rfl rfl ?_
      refine ax_z_lt_T (p' := 13) rfl rfl c1 ?_
      refine am_ev.step (pc' := 14) rfl rfl ?_
      exact am_ev.reti rfl rfl rfl
    · have c2 : v < u := Int32.lt_iff_toInt_lt.2 (by
        have := mt Int32.lt_iff_toInt_lt.2 c1
        omega)
      refine am_ev.step (pc' := 1) rfl rfl ?_
      refine ax_z_lt_N (p' := 4) rfl rfl c1 ?_
      refine am_ev.step (pc' := 5) rfl rfl ?_
      refine am_ev.step (pc' := 6) rfl rfl ?_
      refine ax_c_gt_T (p' := 13) rfl rfl c2 ?_
      refine am_ev.step (pc' := 14) rfl rfl ?_
      exact am_ev.reti rfl rfl rfl
/-- in, of ints -/
theorem in_n {u : Int32} {l g : Nat} (hl : l < 100000) (hg : g < 100000) : ((l : Int) ≤ u.toInt ∧ u.toInt ≤ g → am_ev d 165 0 (am_ent [.long u.toInt64, .long (Int64.ofNat l), .long (Int64.ofNat g)] 6) [] h (some (.int (Int32.ofInt 1)), h)) ∧ (¬ ((l : Int) ≤ u.toInt ∧ u.toInt ≤ g) → am_ev d 165 0 (am_ent [.long u.toInt64, .long (Int64.ofNat l), .long (Int64.ofNat g)] 6) [] h (some (.int (Int32.ofInt 0)), h)) := by
  have e0 : u.toInt64.toInt = u.toInt := Int32.toInt_toInt64 u
  have e1 : (Int64.ofNat l).toInt = (l : Int) := Int64.toInt_ofNat_of_lt (by omega)
  have e2 : (Int64.ofNat g).toInt = (g : Int) := Int64.toInt_ofNat_of_lt (by omega)
  exact ⟨fun q => in_165t (by omega), fun q => in_165f (by omega)⟩
theorem ip_186 : (0 ≤ a.toInt ∧ a.toInt ≤ 19 → am_ev (d + 1) 186 0 (am_ent [.int a] 1) [] h (some (.int (Int32.ofInt 1)), h)) ∧ (¬ (0 ≤ a.toInt ∧ a.toInt ≤ 19) → am_ev (d + 1) 186 0 (am_ent [.int a] 1) [] h (some (.int (Int32.ofInt 0)), h)) := by
  refine ⟨fun q => ?_, fun q => ?_⟩
  · have H := (in_n (h := h) (d := d) (u := a) (l := 0) (g := 19) (by decide) (by decide)).1 q
    refine am_ev.step (pc' := 1) rfl rfl ?_
    refine am_ev.step (pc' := 2) rfl rfl ?_
    refine am_ev.step (pc' := 3) rfl rfl ?_
    refine am_ev.step (pc' := 6) rfl rfl ?_
    refine ax_call (z := 165) (p' := 9) (as := [_, _, _]) rfl (Or.inl ⟨_, rfl⟩) rfl rfl rfl rfl rfl rfl rfl rfl H rfl ?_
    exact am_ev.reti rfl rfl rfl
  · have H := (in_n (h := h) (d := d) (u := a) (l := 0) (g := 19) (by decide) (by decide)).2 q
    refine am_ev.step (pc' := 1) rfl rfl ?_
    refine am_ev.step (pc' := 2) rfl rfl ?_
    refine am_ev.step (pc' := 3) rfl rfl ?_
    refine am_ev.step (pc' := 6) rfl rfl ?_
    refine ax_call (z := 165) (p' := 9) (as := [_, _, _]) rfl (Or.inl ⟨_, rfl⟩) rfl rfl rfl rfl rfl rfl rfl rfl H rfl ?_
    exact am_ev.reti rfl rfl rfl
def po_ok (a b c e : Int32) : Prop := (0 ≤ a.toInt ∧ a.toInt ≤ 19) ∧ (0 ≤ b.toInt ∧ b.toInt ≤ 2100) ∧ (0 ≤ c.toInt ∧ c.toInt ≤ 19) ∧ (0 ≤ e.toInt ∧ e.toInt ≤ 99)
theorem pc_38f (q : ¬ po_ok a b c e) : am_ev (d + 1) 38 0 (am_ent [.ref 40, .int a, .int b, .int c, .int e] 5) [] h (some (ax_m (-2)), h) := by
  by_cases q1 : 0 ≤ a.toInt ∧ a.toInt ≤ 19
  · have H1 := (iw_39 (h := h) (d := d) (u := a) (v := (Int8.ofInt 19).toInt32)).1 (by rw [show (Int8.ofInt 19).toInt32.toInt = 19 by decide]; exact q1)
    by_cases q2 : 0 ≤ b.toInt ∧ b.toInt ≤ 2100
    · have H2 := (iw_39 (h := h) (d := d) (u := b) (v := (Int16.ofInt 2100).toInt32)).1 (by rw [show (Int16.ofInt 2100).toInt32.toInt = 2100 by decide]; exact q2)
      by_cases q3 : 0 ≤ c.toInt ∧ c.toInt ≤ 19
      · have H3 := (iw_39 (h := h) (d := d) (u := c) (v := (Int8.ofInt 19).toInt32)).1 (by rw [show (Int8.ofInt 19).toInt32.toInt = 19 by decide]; exact q3)
        have q4 : ¬ (0 ≤ e.toInt ∧ e.toInt ≤ 99) := fun q4 => q ⟨q1, q2, q3, q4⟩
        have H4 := (iw_39 (h := h) (d := d) (u := e) (v := (Int8.ofInt 99).toInt32)).2 (by rw [show (Int8.ofInt 99).toInt32.toInt = 99 by decide]; exact q4)
        refine am_ev.step (pc' := 1) rfl rfl ?_
        refine am_ev.step (pc' := 3) rfl rfl ?_
        refine ax_call (z := 39) (p' := 6) (as := [_, _]) rfl (Or.inl ⟨_, rfl⟩) rfl rfl rfl rfl rfl rfl rfl rfl H1 rfl ?_
        refine ax_z_eq_N (p' := 9) rfl rfl (by decide : ¬ Int32.ofInt 1 = 0) ?_
        refine am_ev.step (pc' := 10) rfl rfl ?_
        refine am_ev.step (pc' := 13) rfl rfl ?_
        refine ax_call (z := 39) (p' := 16) (as := [_, _]) rfl (Or.inl ⟨_, rfl⟩) rfl rfl rfl rfl rfl rfl rfl rfl H2 rfl ?_
        refine ax_z_eq_N (p' := 19) rfl rfl (by decide : ¬ Int32.ofInt 1 = 0) ?_
        refine am_ev.step (pc' := 20) rfl rfl ?_
        refine am_ev.step (pc' := 22) rfl rfl ?_
        refine ax_call (z := 39) (p' := 25) (as := [_, _]) rfl (Or.inl ⟨_, rfl⟩) rfl rfl rfl rfl rfl rfl rfl rfl H3 rfl ?_
        refine ax_z_eq_N (p' := 28) rfl rfl (by decide : ¬ Int32.ofInt 1 = 0) ?_
        refine am_ev.step (pc' := 30) rfl rfl ?_
        refine am_ev.step (pc' := 32) rfl rfl ?_
        refine ax_call (z := 39) (p' := 35) (as := [_, _]) rfl (Or.inl ⟨_, rfl⟩) rfl rfl rfl rfl rfl rfl rfl rfl H4 rfl ?_
        refine ax_z_ne_N (p' := 38) rfl rfl (by decide : Int32.ofInt 0 = 0) ?_
        refine am_ev.step (pc' := 40) rfl rfl ?_
        exact am_ev.reti rfl rfl rfl
      · have H3 := (iw_39 (h := h) (d := d) (u := c) (v := (Int8.ofInt 19).toInt32)).2 (by rw [show (Int8.ofInt 19).toInt32.toInt = 19 by decide]; exact q3)
        refine am_ev.step (pc' := 1) rfl rfl ?_
        refine am_ev.step (pc' := 3) rfl rfl ?_
        refine ax_call (z := 39) (p' := 6) (as := [_, _]) rfl (Or.inl ⟨_, rfl⟩) rfl rfl rfl rfl rfl rfl rfl rfl H1 rfl ?_
        refine ax_z_eq_N (p' := 9) rfl rfl (by decide : ¬ Int32.ofInt 1 = 0) ?_
        refine am_ev.step (pc' := 10) rfl rfl ?_
        refine am_ev.step (pc' := 13) rfl rfl ?_
        refine ax_call (z := 39) (p' := 16) (as := [_, _]) rfl (Or.inl ⟨_, rfl⟩) rfl rfl rfl rfl rfl rfl rfl rfl H2 rfl ?_
        refine ax_z_eq_N (p' := 19) rfl rfl (by decide : ¬ Int32.ofInt 1 = 0) ?_
        refine am_ev.step (pc' := 20) rfl rfl ?_
        refine am_ev.step (pc' := 22) rfl rfl ?_
        refine ax_call (z := 39) (p' := 25) (as := [_, _]) rfl (Or.inl ⟨_, rfl⟩) rfl rfl rfl rfl rfl rfl rfl rfl H3 rfl ?_
        refine ax_z_eq_T (p' := 38) rfl rfl (by decide : Int32.ofInt 0 = 0) ?_
        refine am_ev.step (pc' := 40) rfl rfl ?_
        exact am_ev.reti rfl rfl rfl
    · have H2 := (iw_39 (h := h) (d := d) (u := b) (v := (Int16.ofInt 2100).toInt32)).2 (by rw [show (Int16.ofInt 2100).toInt32.toInt = 2100 by decide]; exact q2)
      refine am_ev.step (pc' := 1) rfl rfl ?_
      refine am_ev.step (pc' := 3) rfl rfl ?_
      refine ax_call (z := 39) (p' := 6) (as := [_, _]) rfl (Or.inl ⟨_, rfl⟩) rfl rfl rfl rfl rfl rfl rfl rfl H1 rfl ?_
      refine ax_z_eq_N (p' := 9) rfl rfl (by decide : ¬ Int32.ofInt 1 = 0) ?_
      refine am_ev.step (pc' := 10) rfl rfl ?_
      refine am_ev.step (pc' := 13) rfl rfl ?_
      refine ax_call (z := 39) (p' := 16) (as := [_, _]) rfl (Or.inl ⟨_, rfl⟩) rfl rfl rfl rfl rfl rfl rfl rfl H2 rfl ?_
      refine ax_z_eq_T (p' := 38) rfl rfl (by decide : Int32.ofInt 0 = 0) ?_
      refine am_ev.step (pc' := 40) rfl rfl ?_
      exact am_ev.reti rfl rfl rfl
  · have H1 := (iw_39 (h := h) (d := d) (u := a) (v := (Int8.ofInt 19).toInt32)).2 (by rw [show (Int8.ofInt 19).toInt32.toInt = 19 by decide]; exact q1)
    refine am_ev.step (pc' := 1) rfl rfl ?_
    refine am_ev.step (pc' := 3) rfl rfl ?_
    refine ax_call (z := 39) (p' := 6) (as := [_, _]) rfl (Or.inl ⟨_, rfl⟩) rfl rfl rfl rfl rfl rfl rfl rfl H1 rfl ?_
    refine ax_z_eq_T (p' := 38) rfl rfl (by decide : Int32.ofInt 0 = 0) ?_
    refine am_ev.step (pc' := 40) rfl rfl ?_
    exact am_ev.reti rfl rfl rfl
theorem pc_38u (I : cq_Inv none h) (q : po_ok a b c e) (v : h.2.2.2 40 8 = .int m) (hm : 40 ≤ m.toInt) : am_ev (d + 1) 38 0 (am_ent [.ref 40, .int a, .int b, .int c, .int e] 5) [] h (some (ax_m (-3)), h) := by
  have O := ax_o I (c := 40) (k := 11) (by decide +kernel)
  have H1 := (iw_39 (h := h) (d := d) (u := a) (v := (Int8.ofInt 19).toInt32)).1 (by rw [show (Int8.ofInt 19).toInt32.toInt = 19 by decide]; exact q.1)
  have H2 := (iw_39 (h := h) (d := d) (u := b) (v := (Int16.ofInt 2100).toInt32)).1 (by rw [show (Int16.ofInt 2100).toInt32.toInt = 2100 by decide]; exact q.2.1)
  have H3 := (iw_39 (h := h) (d := d) (u := c) (v := (Int8.ofInt 19).toInt32)).1 (by rw [show (Int8.ofInt 19).toInt32.toInt = 19 by decide]; exact q.2.2.1)
  have H4 := (iw_39 (h := h) (d := d) (u := e) (v := (Int8.ofInt 99).toInt32)).1 (by rw [show (Int8.ofInt 99).toInt32.toInt = 99 by decide]; exact q.2.2.2)
  have lt : ¬ m < (Int8.ofInt 40).toInt32 := fun z => by
    have z := Int32.lt_iff_toInt_lt.1 z
    rw [show (Int8.ofInt 40).toInt32.toInt = 40 by decide] at z
    omega
  refine am_ev.step (pc' := 1) rfl rfl ?_
  refine am_ev.step (pc' := 3) rfl rfl ?_
  refine ax_call (z := 39) (p' := 6) (as := [_, _]) rfl (Or.inl ⟨_, rfl⟩) rfl rfl rfl rfl rfl rfl rfl rfl H1 rfl ?_
  refine ax_z_eq_N (p' := 9) rfl rfl (by decide : ¬ Int32.ofInt 1 = 0) ?_
  refine am_ev.step (pc' := 10) rfl rfl ?_
  refine am_ev.step (pc' := 13) rfl rfl ?_
  refine ax_call (z := 39) (p' := 16) (as := [_, _]) rfl (Or.inl ⟨_, rfl⟩) rfl rfl rfl rfl rfl rfl rfl rfl H2 rfl ?_
  refine ax_z_eq_N (p' := 19) rfl rfl (by decide : ¬ Int32.ofInt 1 = 0) ?_
  refine am_ev.step (pc' := 20) rfl rfl ?_
  refine am_ev.step (pc' := 22) rfl rfl ?_
  refine ax_call (z := 39) (p' := 25) (as := [_, _]) rfl (Or.inl ⟨_, rfl⟩) rfl rfl rfl rfl rfl rfl rfl rfl H3 rfl ?_
  refine ax_z_eq_N (p' := 28) rfl rfl (by decide : ¬ Int32.ofInt 1 = 0) ?_
  refine am_ev.step (pc' := 30) rfl rfl ?_
  refine am_ev.step (pc' := 32) rfl rfl ?_
  refine ax_call (z := 39) (p' := 35) (as := [_, _]) rfl (Or.inl ⟨_, rfl⟩) rfl rfl rfl rfl rfl rfl rfl rfl H4 rfl ?_
  refine ax_z_ne_T (p' := 41) rfl rfl (by decide : ¬ Int32.ofInt 1 = 0) ?_
  refine am_ev.step (pc' := 42) rfl rfl ?_
  refine ax_gf (p' := 45) rfl rfl O v ?_
  refine am_ev.step (pc' := 47) rfl rfl ?_
  refine ax_c_lt_N (p' := 50) rfl rfl lt ?_
  refine am_ev.step (pc' := 52) rfl rfl ?_
  exact am_ev.reti rfl rfl rfl
theorem pc_40 {x : Nat} (O : am_isO h x 6 = true) : ∃ g : am_H, am_ev (d + 1) 40 0 (am_ent [.ref x, .int a, .int b, .int c, .int e] 5) [] h (none, g) ∧ ax_old x h g ∧ g.2.2.1 x = h.2.2.1 x ∧ g.2.2.2 x 0 = .int a ∧ g.2.2.2 x 4 = .int (Int32.ofInt (-1)) := by
  have xl : x < h.1 := by
    unfold am_isO at O
    have q1 := (Bool.and_eq_true _ _ ▸ O)
    have q2 := (Bool.and_eq_true _ _ ▸ q1.1)
    exact Nat.le_of_ble_eq_true q2.1
  obtain ⟨h1, e1⟩ : ∃ h1 : am_H, h1 = am_put (am_put (am_put h x 4 (.int (Int32.ofInt (-1)))) x 5 (.int (Int32.ofInt 0))) x 6 (.int (Int32.ofInt 0)) := ⟨_, rfl⟩
  have o1 : ax_old x h h1 := by
    rw [e1]
    exact ((ax_old.rf.put (Nat.le_refl _)).put (Nat.le_refl _)).put (Nat.le_refl _)
  have s1 : h1.1 = h.1 ∧ h1.2.2.1 = h.2.2.1 := by
    rw [e1]
    exact ⟨rfl, rfl⟩
  have v1 : h1.2.2.2 x 4 = .int (Int32.ofInt (-1)) := by
    rw [e1]
    exact ax_put_o (Or.inr (by decide)) (ax_put_o (Or.inr (by decide)) (ax_put_s _ _ _))
  have O1 : am_isO h1 x 6 = true := by
    rw [e1]
    exact O
  obtain ⟨h2, e2⟩ : ∃ h2 : am_H, h2 = am_mk h1 (1, 7, (Int32.ofInt 3).toNatClampNeg) (Int32.ofInt 3).toNatClampNeg (fun _ => .null) := ⟨_, rfl⟩
  have o2 : ax_old x h h2 := by
    rw [e2]
    exact o1.mk (by rw [s1.1]; exact Nat.le_of_lt xl)
  have n2 : h2.1 = h.1 + 1 := by
    rw [e2]
    show h1.1 + 1 = _
    rw [s1.1]
  have sx2 : h2.2.2.1 x = h.2.2.1 x := by
    rw [e2]
    show (if x = h1.1 then _ else h1.2.2.1 x) = _
    rw [if_neg (by rw [s1.1]; omega), s1.2]
  have v2 : h2.2.2.2 x 4 = .int (Int32.ofInt (-1)) := by
    rw [e2]
    show (if x = h1.1 then _ else h1.2.2.2 x 4) = _
    rw [if_neg (by rw [s1.1]; omega), v1]
  have O2 : am_isO h2 x 6 = true := by
    unfold am_isO at O ⊢
    have q1 := (Bool.and_eq_true _ _ ▸ O)
    have q2 := (Bool.and_eq_true _ _ ▸ q1.1)
    rw [sx2, q2.2, q1.2, n2, show Nat.blt x (h.1 + 1) = true from Nat.ble_eq_true_of_le (by omega)]
    rfl
  obtain ⟨h3, e3⟩ : ∃ h3 : am_H, h3 = am_put h2 x 7 (.ref h1.1) := ⟨_, rfl⟩
  obtain ⟨h4, e4⟩ : ∃ h4 : am_H, h4 = am_mk h3 (1, 0, (Int32.ofInt 3).toNatClampNeg) (Int32.ofInt 3).toNatClampNeg (fun _ => am_dv 0) := ⟨_, rfl⟩
  have o3 : ax_old x h h3 := by
    rw [e3]
    exact o2.put (Nat.le_refl _)
  have n3 : h3.1 = h.1 + 1 := by
    rw [e3]
    exact n2
  have o4 : ax_old x h h4 := by
    rw [e4]
    exact o3.mk (by rw [n3]; omega)
  have n4 : h4.1 = h.1 + 2 := by
    rw [e4]
    show h3.1 + 1 = _
    rw [n3]
  have sx4 : h4.2.2.1 x = h.2.2.1 x := by
    rw [e4]
    show (if x = h3.1 then _ else h3.2.2.1 x) = _
    rw [if_neg (by rw [n3]; omega), e3]
    exact sx2
  have v4 : h4.2.2.2 x 4 = .int (Int32.ofInt (-1)) := by
    rw [e4]
    show (if x = h3.1 then _ else h3.2.2.2 x 4) = _
    rw [if_neg (by rw [n3]; omega), e3]
    exact ax_put_o (Or.inr (by decide)) v2
  have O4 : am_isO h4 x 6 = true := by
    unfold am_isO at O ⊢
    have q1 := (Bool.and_eq_true _ _ ▸ O)
    have q2 := (Bool.and_eq_true _ _ ▸ q1.1)
    rw [sx4, q2.2, q1.2, n4, show Nat.blt x (h.1 + 2) = true from Nat.ble_eq_true_of_le (by omega)]
    rfl
  have sy : h4.2.2.1 h3.1 = (1, 0, 3) := by
    rw [e4]
    show (if h3.1 = h3.1 then _ else _) = _
    rw [if_pos rfl]
    rfl
  have ly : h3.1 < h4.1 := by
    rw [n3, n4]
    omega
  have wr : ∀ (k : am_H) (j : Int32), k.1 = h4.1 → k.2.2.1 = h4.2.2.1 → 0 ≤ j.toInt → j.toInt < 3 → am_wr k h3.1 j 0 (.int (Int32.ofInt (-1))) = some (am_put k h3.1 j.toInt.toNat (.int (Int32.ofInt (-1)))) := fun k j q1 q2 j0 j1 => ax_wrv (by rw [q1]; exact ly) (by rw [q2]; exact sy) j0 (by omega)
  obtain ⟨h5, e5⟩ : ∃ h5 : am_H, h5 = am_put (am_put (am_put h4 h3.1 (Int32.ofInt 0).toInt.toNat (.int (Int32.ofInt (-1)))) h3.1 (Int32.ofInt 1).toInt.toNat (.int (Int32.ofInt (-1)))) h3.1 (Int32.ofInt 2).toInt.toNat (.int (Int32.ofInt (-1))) := ⟨_, rfl⟩
  have yx : x ≤ h3.1 := by
    rw [n3]
    omega
  have o5 : ax_old x h h5 := by
    rw [e5]
    exact ((o4.put yx).put yx).put yx
  have sx5 : h5.2.2.1 x = h.2.2.1 x := by
    rw [e5]
    exact sx4
  have v5 : h5.2.2.2 x 4 = .int (Int32.ofInt (-1)) := by
    rw [e5]
    exact ax_put_o (Or.inl (by rw [n3]; omega)) (ax_put_o (Or.inl (by rw [n3]; omega)) (ax_put_o (Or.inl (by rw [n3]; omega)) v4))
  have O5 : am_isO h5 x 6 = true := by
    rw [e5]
    exact O4
  have w1 := wr h4 (Int32.ofInt 0) rfl rfl (by decide) (by decide)
  have w2 := wr (am_put h4 h3.1 (Int32.ofInt 0).toInt.toNat (.int (Int32.ofInt (-1)))) (Int32.ofInt 1) rfl rfl (by decide) (by decide)
  have w3 := wr (am_put (am_put h4 h3.1 (Int32.ofInt 0).toInt.toNat (.int (Int32.ofInt (-1)))) h3.1 (Int32.ofInt 1).toInt.toNat (.int (Int32.ofInt (-1)))) (Int32.ofInt 2) rfl rfl (by decide) (by decide)
  rw [← e5] at w3
  refine ⟨am_put (am_put (am_put (am_put (am_put h5 x 8 (.ref h3.1)) x 0 (.int a)) x 1 (.int b)) x 2 (.int c)) x 3 (.int e), ?_, ((((o5.put (Nat.le_refl _)).put (Nat.le_refl _)).put (Nat.le_refl _)).put (Nat.le_refl _)).put (Nat.le_refl _), sx5, ?_, ?_⟩
  · refine am_ev.step (pc' := 1) rfl rfl ?_
    refine ax_obj (p' := 4) rfl ?_ rfl rfl rfl ?_
    · exact Or.inr (Or.inr ⟨_, rfl⟩)
    refine am_ev.step (pc' := 5) rfl rfl ?_
    refine am_ev.step (pc' := 6) rfl rfl ?_
    refine ax_pf (p' := 9) rfl rfl O rfl ?_
    refine am_ev.step (pc' := 10) rfl rfl ?_
    refine am_ev.step (pc' := 11) rfl rfl ?_
    refine ax_pf (p' := 14) rfl rfl O rfl ?_
    refine am_ev.step (pc' := 15) rfl rfl ?_
    refine am_ev.step (pc' := 16) rfl rfl ?_
    refine ax_pf (p' := 19) rfl rfl O rfl ?_
    refine am_ev.step (pc' := 20) rfl rfl ?_
    rw [← e1]
    refine am_ev.step (pc' := 21) rfl rfl ?_
    refine am_ev.step (pc' := 24) (h' := h2) rfl (by rw [e2]; rfl) ?_
    refine ax_pf (p' := 27) rfl rfl O2 rfl ?_
    rw [← e3]
    refine am_ev.step (pc' := 28) rfl rfl ?_
    refine am_ev.step (pc' := 29) rfl rfl ?_
    refine am_ev.step (pc' := 31) (h' := h4) rfl (by rw [e4]; rfl) ?_
    refine am_ev.step (pc' := 32) rfl rfl ?_
    refine am_ev.step (pc' := 33) rfl rfl ?_
    refine am_ev.step (pc' := 34) rfl rfl ?_
    refine ax_iastore (p' := 35) rfl rfl w1 ?_
    refine am_ev.step (pc' := 36) rfl rfl ?_
    refine am_ev.step (pc' := 37) rfl rfl ?_
    refine am_ev.step (pc' := 38) rfl rfl ?_
    refine ax_iastore (p' := 39) rfl rfl w2 ?_
    refine am_ev.step (pc' := 40) rfl rfl ?_
    refine am_ev.step (pc' := 41) rfl rfl ?_
    refine am_ev.step (pc' := 42) rfl rfl ?_
    refine ax_iastore (p' := 43) rfl rfl w3 ?_
    refine ax_pf (p' := 46) rfl rfl O5 rfl ?_
    refine am_ev.step (pc' := 47) rfl rfl ?_
    refine am_ev.step (pc' := 48) rfl rfl ?_
    refine ax_pf (p' := 51) rfl rfl O5 rfl ?_
    refine am_ev.step (pc' := 52) rfl rfl ?_
    refine am_ev.step (pc' := 53) rfl rfl ?_
    refine ax_pf (p' := 56) rfl rfl O5 rfl ?_
    refine am_ev.step (pc' := 57) rfl rfl ?_
    refine am_ev.step (pc' := 58) rfl rfl ?_
    refine ax_pf (p' := 61) rfl rfl O5 rfl ?_
    refine am_ev.step (pc' := 62) rfl rfl ?_
    refine am_ev.step (pc' := 64) rfl rfl ?_
    refine ax_pf (p' := 67) rfl rfl O5 rfl ?_
    exact am_ev.retv rfl rfl
  · exact ax_put_o (Or.inr (by decide)) (ax_put_o (Or.inr (by decide)) (ax_put_o (Or.inr (by decide)) (ax_put_s _ _ _)))
  · exact ax_put_o (Or.inr (by decide)) (ax_put_o (Or.inr (by decide)) (ax_put_o (Or.inr (by decide)) (ax_put_o (Or.inr (by decide)) (ax_put_o (Or.inr (by decide)) v5))))
theorem pc_38d (I : cq_Inv none h) (q : po_ok a b c e) (v : h.2.2.2 40 8 = .int m) (hm : 0 ≤ m.toInt ∧ m.toInt < 40) : ∃ g : am_H, am_ev (d + 2) 38 0 (am_ent [.ref 40, .int a, .int b, .int c, .int e] 5) [] h (some (.int (m + Int32.ofInt 1 - Int32.ofInt 1)), g) ∧ g.2.2.2 40 8 = .int (m + Int32.ofInt 1) ∧ g.2.2.2 73 m.toInt.toNat = .ref h.1 ∧ g.2.2.2 h.1 0 = .int a ∧ g.2.2.2 h.1 4 = .int (Int32.ofInt (-1)) ∧ (∀ j, j ≠ m.toInt.toNat → g.2.2.2 73 j = h.2.2.2 73 j) ∧ ∀ s j, 130 ≤ s → s < h.1 → g.2.2.2 s j = h.2.2.2 s j := by
  have lo := I.lo
  have O := ax_o I (c := 40) (k := 11) (by decide +kernel)
  have v7 := ax_rf I (c := 40) (j := 7) (k := 73) (by decide +kernel) (by decide +kernel)
  have A := ax_ar I (c := 73) (tc := 10) (n := 40) (by decide) (by decide +kernel)
  have H1 := (iw_39 (h := h) (d := d + 1) (u := a) (v := (Int8.ofInt 19).toInt32)).1 (by rw [show (Int8.ofInt 19).toInt32.toInt = 19 by decide]; exact q.1)
  have H2 := (iw_39 (h := h) (d := d + 1) (u := b) (v := (Int16.ofInt 2100).toInt32)).1 (by rw [show (Int16.ofInt 2100).toInt32.toInt = 2100 by decide]; exact q.2.1)
  have H3 := (iw_39 (h := h) (d := d + 1) (u := c) (v := (Int8.ofInt 19).toInt32)).1 (by rw [show (Int8.ofInt 19).toInt32.toInt = 19 by decide]; exact q.2.2.1)
  have H4 := (iw_39 (h := h) (d := d + 1) (u := e) (v := (Int8.ofInt 99).toInt32)).1 (by rw [show (Int8.ofInt 99).toInt32.toInt = 99 by decide]; exact q.2.2.2)
  have lt : m < (Int8.ofInt 40).toInt32 := Int32.lt_iff_toInt_lt.2 (by
    rw [show (Int8.ofInt 40).toInt32.toInt = 40 by decide]
    exact hm.2)
  obtain ⟨k, hk⟩ : ∃ k : am_H, k = am_mk h (0, 6, am_N 6) (am_N 6) (fun j => defaultValue (am_ty 6 j)) := ⟨_, rfl⟩
  have k1 : k.1 = h.1 + 1 := by rw [hk]; rfl
  have ko : ax_old h.1 h k := by
    rw [hk]
    exact ax_old.rf.mk (Nat.le_refl _)
  have ka : k.2.2.1 h.1 = (0, 6, am_N 6) := by
    rw [hk]
    exact if_pos rfl
  have Ok : am_isO k h.1 6 = true := by
    unfold am_isO
    rw [ka, k1, show Nat.blt h.1 (h.1 + 1) = true from Nat.ble_eq_true_of_le (Nat.le_refl _)]
    rfl
  obtain ⟨g, ev, go, gs, ga, gt⟩ := pc_40 (d := d) (a := a) (b := b) (c := c) (e := e) Ok
  have go2 : ax_old h.1 h g := ⟨Nat.le_trans ko.1 go.1, fun c hc => by rw [go.2.1 c hc, ko.2.1 c hc], fun c j hc => by rw [go.2.2 c j hc, ko.2.2 c j hc]⟩
  have sa : g.2.2.1 h.1 = (0, 6, am_N 6) := by rw [gs, ka]
  have la : h.1 < g.1 := by
    have := go.1
    omega
  have Oa : am_isO g h.1 6 = true := by
    unfold am_isO
    rw [sa, show Nat.blt h.1 g.1 = true from Nat.ble_eq_true_of_le la]
    rfl
  have WR : am_isO g h.1 (g.2.2.1 h.1).2.1 = true ∧ am_isA ((g.2.2.1 h.1).2.1 + 4) = true ∧ am_wr g 73 m ((g.2.2.1 h.1).2.1 + 4) (.ref h.1) = some (am_put g 73 m.toInt.toNat (.ref h.1)) := by
    rw [sa]
    exact ⟨Oa, by decide +kernel, ax_wrv (by omega) (by rw [go2.2.1 73 (by omega), A.2]) hm.1 (by omega)⟩
  have Og := go2.isO (c := 40) (k := 11) (by omega) O
  obtain ⟨g2, e2⟩ : ∃ g2 : am_H, g2 = am_put g 73 m.toInt.toNat (.ref h.1) := ⟨_, rfl⟩
  rw [← e2] at WR
  have f8 : g2.2.2.2 40 8 = .int m := by
    rw [e2]
    exact ax_put_o (Or.inl (by decide)) (by rw [go2.2.2 40 8 (by omega), v])
  have O2 : am_isO g2 40 11 = true := by rw [e2]; exact Og
  refine ⟨am_put g2 40 8 (.int (m + Int32.ofInt 1)), ?_, ax_put_s _ _ _, ax_put_o (Or.inl (by decide)) ?_, ax_put_o (Or.inl (by omega)) ?_, ax_put_o (Or.inl (by omega)) ?_, fun j hj => ax_put_o (Or.inl (by decide)) ?_, fun s j h1 h2 => ax_put_o (Or.inl (by omega)) ?_⟩
  · refine am_ev.step (pc' := 1) rfl rfl ?_
    refine am_ev.step (pc' := 3) rfl rfl ?_
    refine ax_call (z := 39) (p' := 6) (as := [_, _]) rfl (Or.inl ⟨_, rfl⟩) rfl rfl rfl rfl rfl rfl rfl rfl H1 rfl ?_
    refine ax_z_eq_N (p' := 9) rfl rfl (by decide : ¬ Int32.ofInt 1 = 0) ?_
    refine am_ev.step (pc' := 10) rfl rfl ?_
    refine am_ev.step (pc' := 13) rfl rfl ?_
    refine ax_call (z := 39) (p' := 16) (as := [_, _]) rfl (Or.inl ⟨_, rfl⟩) rfl rfl rfl rfl rfl rfl rfl rfl H2 rfl ?_
    refine ax_z_eq_N (p' := 19) rfl rfl (by decide : ¬ Int32.ofInt 1 = 0) ?_
    refine am_ev.step (pc' := 20) rfl rfl ?_
    refine am_ev.step (pc' := 22) rfl rfl ?_
    refine ax_call (z := 39) (p' := 25) (as := [_, _]) rfl (Or.inl ⟨_, rfl⟩) rfl rfl rfl rfl rfl rfl rfl rfl H3 rfl ?_
    refine ax_z_eq_N (p' := 28) rfl rfl (by decide : ¬ Int32.ofInt 1 = 0) ?_
    refine am_ev.step (pc' := 30) rfl rfl ?_
    refine am_ev.step (pc' := 32) rfl rfl ?_
    refine ax_call (z := 39) (p' := 35) (as := [_, _]) rfl (Or.inl ⟨_, rfl⟩) rfl rfl rfl rfl rfl rfl rfl rfl H4 rfl ?_
    refine ax_z_ne_T (p' := 41) rfl rfl (by decide : ¬ Int32.ofInt 1 = 0) ?_
    refine am_ev.step (pc' := 42) rfl rfl ?_
    refine ax_gf (p' := 45) rfl rfl O v ?_
    refine am_ev.step (pc' := 47) rfl rfl ?_
    refine ax_c_lt_T (p' := 53) rfl rfl lt ?_
    refine am_ev.step (pc' := 54) rfl rfl ?_
    refine ax_gf (p' := 57) rfl rfl O v7 ?_
    refine am_ev.step (pc' := 58) rfl rfl ?_
    refine ax_gf (p' := 61) rfl rfl O v ?_
    refine am_ev.step (pc' := 64) rfl rfl ?_
    refine am_ev.step (pc' := 65) rfl rfl ?_
    refine am_ev.step (pc' := 66) rfl rfl ?_
    refine am_ev.step (pc' := 67) rfl rfl ?_
    refine am_ev.step (pc' := 68) rfl rfl ?_
    refine am_ev.step (pc' := 70) rfl rfl ?_
    refine ax_call (z := 40) (p' := 73) (as := [_, _, _, _, _]) rfl (Or.inr (Or.inr ⟨_, rfl⟩)) rfl rfl rfl rfl rfl rfl rfl rfl (by rw [← hk]; exact ev) rfl ?_
    refine ax_aastore (p' := 74) rfl rfl WR ?_
    refine am_ev.step (pc' := 75) rfl rfl ?_
    refine am_ev.step (pc' := 76) rfl rfl ?_
    refine ax_gf (p' := 79) rfl rfl O2 f8 ?_
    refine am_ev.step (pc' := 80) rfl rfl ?_
    refine am_ev.step (pc' := 81) rfl rfl ?_
    refine ax_pf (p' := 84) rfl rfl O2 rfl ?_
    refine am_ev.step (pc' := 85) rfl rfl ?_
    refine ax_gf (p' := 88) rfl rfl O2 (ax_put_s _ _ _) ?_
    refine am_ev.step (pc' := 89) rfl rfl ?_
    refine am_ev.step (pc' := 90) rfl rfl ?_
    exact am_ev.reti rfl rfl rfl
  · rw [e2]
    exact ax_put_s _ _ _
  · rw [e2]
    exact ax_put_o (Or.inl (by omega)) ga
  · rw [e2]
    exact ax_put_o (Or.inl (by omega)) gt
  · rw [e2]
    exact ax_put_o (Or.inr hj) (go2.2.2 73 j (by omega))
  · rw [e2]
    exact ax_put_o (Or.inl (by omega)) (go2.2.2 s j h2)
theorem pm_185f (q : ¬ po_ok a b c e) : am_ev (d + 2) 185 0 (am_ent [.ref 78, .int a, .int b, .int c, .int e] 5) [] h (some (ax_m (-2)), h) := by
  by_cases q1 : 0 ≤ a.toInt ∧ a.toInt ≤ 19
  · have H1 := (ip_186 (h := h) (d := d) (a := a)).1 q1
    by_cases q2 : 0 ≤ b.toInt ∧ b.toInt ≤ 2100
    · have H2 := (in_n (h := h) (d := d + 1) (u := b) (l := 0) (g := 2100) (by decide) (by decide)).1 q2
      by_cases q3 : 0 ≤ c.toInt ∧ c.toInt ≤ 19
      · have H3 := (in_n (h := h) (d := d + 1) (u := c) (l := 0) (g := 19) (by decide) (by decide)).1 q3
        have q4 : ¬ (0 ≤ e.toInt ∧ e.toInt ≤ 99) := fun q4 => q ⟨q1, q2, q3, q4⟩
        have H4 := (in_n (h := h) (d := d + 1) (u := e) (l := 0) (g := 99) (by decide) (by decide)).2 q4
        refine am_ev.step (pc' := 1) rfl rfl ?_
        refine ax_call (z := 186) (p' := 4) (as := [_]) rfl (Or.inl ⟨_, rfl⟩) rfl rfl rfl rfl rfl rfl rfl rfl H1 rfl ?_
        refine ax_z_eq_N (p' := 7) rfl rfl (by decide : ¬ Int32.ofInt 1 = 0) ?_
        refine am_ev.step (pc' := 8) rfl rfl ?_
        refine am_ev.step (pc' := 9) rfl rfl ?_
        refine am_ev.step (pc' := 10) rfl rfl ?_
        refine am_ev.step (pc' := 13) rfl rfl ?_
        refine ax_call (z := 165) (p' := 16) (as := [_, _, _]) rfl (Or.inl ⟨_, rfl⟩) rfl rfl rfl rfl rfl rfl rfl rfl H2 rfl ?_
        refine ax_z_eq_N (p' := 19) rfl rfl (by decide : ¬ Int32.ofInt 1 = 0) ?_
        refine am_ev.step (pc' := 20) rfl rfl ?_
        refine am_ev.step (pc' := 21) rfl rfl ?_
        refine am_ev.step (pc' := 22) rfl rfl ?_
        refine am_ev.step (pc' := 25) rfl rfl ?_
        refine ax_call (z := 165) (p' := 28) (as := [_, _, _]) rfl (Or.inl ⟨_, rfl⟩) rfl rfl rfl rfl rfl rfl rfl rfl H3 rfl ?_
        refine ax_z_eq_N (p' := 31) rfl rfl (by decide : ¬ Int32.ofInt 1 = 0) ?_
        refine am_ev.step (pc' := 33) rfl rfl ?_
        refine am_ev.step (pc' := 34) rfl rfl ?_
        refine am_ev.step (pc' := 35) rfl rfl ?_
        refine am_ev.step (pc' := 38) rfl rfl ?_
        refine ax_call (z := 165) (p' := 41) (as := [_, _, _]) rfl (Or.inl ⟨_, rfl⟩) rfl rfl rfl rfl rfl rfl rfl rfl H4 rfl ?_
        refine ax_z_ne_N (p' := 44) rfl rfl (by decide : Int32.ofInt 0 = 0) ?_
        refine am_ev.step (pc' := 46) rfl rfl ?_
        exact am_ev.reti rfl rfl rfl
      · have H3 := (in_n (h := h) (d := d + 1) (u := c) (l := 0) (g := 19) (by decide) (by decide)).2 q3
        refine am_ev.step (pc' := 1) rfl rfl ?_
        refine ax_call (z := 186) (p' := 4) (as := [_]) rfl (Or.inl ⟨_, rfl⟩) rfl rfl rfl rfl rfl rfl rfl rfl H1 rfl ?_
        refine ax_z_eq_N (p' := 7) rfl rfl (by decide : ¬ Int32.ofInt 1 = 0) ?_
        refine am_ev.step (pc' := 8) rfl rfl ?_
        refine am_ev.step (pc' := 9) rfl rfl ?_
        refine am_ev.step (pc' := 10) rfl rfl ?_
        refine am_ev.step (pc' := 13) rfl rfl ?_
        refine ax_call (z := 165) (p' := 16) (as := [_, _, _]) rfl (Or.inl ⟨_, rfl⟩) rfl rfl rfl rfl rfl rfl rfl rfl H2 rfl ?_
        refine ax_z_eq_N (p' := 19) rfl rfl (by decide : ¬ Int32.ofInt 1 = 0) ?_
        refine am_ev.step (pc' := 20) rfl rfl ?_
        refine am_ev.step (pc' := 21) rfl rfl ?_
        refine am_ev.step (pc' := 22) rfl rfl ?_
        refine am_ev.step (pc' := 25) rfl rfl ?_
        refine ax_call (z := 165) (p' := 28) (as := [_, _, _]) rfl (Or.inl ⟨_, rfl⟩) rfl rfl rfl rfl rfl rfl rfl rfl H3 rfl ?_
        refine ax_z_eq_T (p' := 44) rfl rfl (by decide : Int32.ofInt 0 = 0) ?_
        refine am_ev.step (pc' := 46) rfl rfl ?_
        exact am_ev.reti rfl rfl rfl
    · have H2 := (in_n (h := h) (d := d + 1) (u := b) (l := 0) (g := 2100) (by decide) (by decide)).2 q2
      refine am_ev.step (pc' := 1) rfl rfl ?_
      refine ax_call (z := 186) (p' := 4) (as := [_]) rfl (Or.inl ⟨_, rfl⟩) rfl rfl rfl rfl rfl rfl rfl rfl H1 rfl ?_
      refine ax_z_eq_N (p' := 7) rfl rfl (by decide : ¬ Int32.ofInt 1 = 0) ?_
      refine am_ev.step (pc' := 8) rfl rfl ?_
      refine am_ev.step (pc' := 9) rfl rfl ?_
      refine am_ev.step (pc' := 10) rfl rfl ?_
      refine am_ev.step (pc' := 13) rfl rfl ?_
      refine ax_call (z := 165) (p' := 16) (as := [_, _, _]) rfl (Or.inl ⟨_, rfl⟩) rfl rfl rfl rfl rfl rfl rfl rfl H2 rfl ?_
      refine ax_z_eq_T (p' := 44) rfl rfl (by decide : Int32.ofInt 0 = 0) ?_
      refine am_ev.step (pc' := 46) rfl rfl ?_
      exact am_ev.reti rfl rfl rfl
  · have H1 := (ip_186 (h := h) (d := d) (a := a)).2 q1
    refine am_ev.step (pc' := 1) rfl rfl ?_
    refine ax_call (z := 186) (p' := 4) (as := [_]) rfl (Or.inl ⟨_, rfl⟩) rfl rfl rfl rfl rfl rfl rfl rfl H1 rfl ?_
    refine ax_z_eq_T (p' := 44) rfl rfl (by decide : Int32.ofInt 0 = 0) ?_
    refine am_ev.step (pc' := 46) rfl rfl ?_
    exact am_ev.reti rfl rfl rfl
theorem pm_185u (I : cq_Inv none h) (q : po_ok a b c e) (v : h.2.2.2 78 16 = .int m) (hm : m.toInt = 40) : am_ev (d + 2) 185 0 (am_ent [.ref 78, .int a, .int b, .int c, .int e] 5) [] h (some (ax_m (-3)), h) := by
  have O := ax_o I (c := 78) (k := 13) (by decide +kernel)
  have H1 := (ip_186 (h := h) (d := d) (a := a)).1 q.1
  have H2 := (in_n (h := h) (d := d + 1) (u := b) (l := 0) (g := 2100) (by decide) (by decide)).1 q.2.1
  have H3 := (in_n (h := h) (d := d + 1) (u := c) (l := 0) (g := 19) (by decide) (by decide)).1 q.2.2.1
  have H4 := (in_n (h := h) (d := d + 1) (u := e) (l := 0) (g := 99) (by decide) (by decide)).1 q.2.2.2
  have eq : m = (Int8.ofInt 40).toInt32 := Int32.toInt_inj.1 (by rw [hm]; decide)
  refine am_ev.step (pc' := 1) rfl rfl ?_
  refine ax_call (z := 186) (p' := 4) (as := [_]) rfl (Or.inl ⟨_, rfl⟩) rfl rfl rfl rfl rfl rfl rfl rfl H1 rfl ?_
  refine ax_z_eq_N (p' := 7) rfl rfl (by decide : ¬ Int32.ofInt 1 = 0) ?_
  refine am_ev.step (pc' := 8) rfl rfl ?_
  refine am_ev.step (pc' := 9) rfl rfl ?_
  refine am_ev.step (pc' := 10) rfl rfl ?_
  refine am_ev.step (pc' := 13) rfl rfl ?_
  refine ax_call (z := 165) (p' := 16) (as := [_, _, _]) rfl (Or.inl ⟨_, rfl⟩) rfl rfl rfl rfl rfl rfl rfl rfl H2 rfl ?_
  refine ax_z_eq_N (p' := 19) rfl rfl (by decide : ¬ Int32.ofInt 1 = 0) ?_
  refine am_ev.step (pc' := 20) rfl rfl ?_
  refine am_ev.step (pc' := 21) rfl rfl ?_
  refine am_ev.step (pc' := 22) rfl rfl ?_
  refine am_ev.step (pc' := 25) rfl rfl ?_
  refine ax_call (z := 165) (p' := 28) (as := [_, _, _]) rfl (Or.inl ⟨_, rfl⟩) rfl rfl rfl rfl rfl rfl rfl rfl H3 rfl ?_
  refine ax_z_eq_N (p' := 31) rfl rfl (by decide : ¬ Int32.ofInt 1 = 0) ?_
  refine am_ev.step (pc' := 33) rfl rfl ?_
  refine am_ev.step (pc' := 34) rfl rfl ?_
  refine am_ev.step (pc' := 35) rfl rfl ?_
  refine am_ev.step (pc' := 38) rfl rfl ?_
  refine ax_call (z := 165) (p' := 41) (as := [_, _, _]) rfl (Or.inl ⟨_, rfl⟩) rfl rfl rfl rfl rfl rfl rfl rfl H4 rfl ?_
  refine ax_z_ne_T (p' := 47) rfl rfl (by decide : ¬ Int32.ofInt 1 = 0) ?_
  refine am_ev.step (pc' := 48) rfl rfl ?_
  refine ax_gf (p' := 51) rfl rfl O v ?_
  refine am_ev.step (pc' := 53) rfl rfl ?_
  refine ax_c_ne_N (p' := 56) rfl rfl eq ?_
  refine am_ev.step (pc' := 58) rfl rfl ?_
  exact am_ev.reti rfl rfl rfl
theorem pm_185d (I : cq_Inv none h) (q : po_ok a b c e) (v : h.2.2.2 78 16 = .int m) (hm : 0 ≤ m.toInt ∧ m.toInt < 40) : ∃ g : am_H, am_ev (d + 2) 185 0 (am_ent [.ref 78, .int a, .int b, .int c, .int e] 5) [] h (some (.int (m + Int32.ofInt 1 - Int32.ofInt 1)), g) ∧ g.2.2.2 78 16 = .int (m + Int32.ofInt 1) ∧ g.2.2.2 86 m.toInt.toNat = .int a ∧ g.2.2.2 90 m.toInt.toNat = .int (Int32.ofInt (-1)) ∧ (∀ j, j ≠ m.toInt.toNat → g.2.2.2 86 j = h.2.2.2 86 j ∧ g.2.2.2 90 j = h.2.2.2 90 j) := by
  have O := ax_o I (c := 78) (k := 13) (by decide +kernel)
  have v17 := ax_rf I (c := 78) (j := 17) (k := 86) (by decide +kernel) (by decide +kernel)
  have A86 := ax_ar I (c := 86) (tc := 0) (n := 40) (by decide) (by decide +kernel)
  have v18 := ax_rf I (c := 78) (j := 18) (k := 87) (by decide +kernel) (by decide +kernel)
  have A87 := ax_ar I (c := 87) (tc := 0) (n := 40) (by decide) (by decide +kernel)
  have v19 := ax_rf I (c := 78) (j := 19) (k := 88) (by decide +kernel) (by decide +kernel)
  have A88 := ax_ar I (c := 88) (tc := 0) (n := 40) (by decide) (by decide +kernel)
  have v20 := ax_rf I (c := 78) (j := 20) (k := 89) (by decide +kernel) (by decide +kernel)
  have A89 := ax_ar I (c := 89) (tc := 0) (n := 40) (by decide) (by decide +kernel)
  have v21 := ax_rf I (c := 78) (j := 21) (k := 90) (by decide +kernel) (by decide +kernel)
  have A90 := ax_ar I (c := 90) (tc := 0) (n := 40) (by decide) (by decide +kernel)
  have H1 := (ip_186 (h := h) (d := d) (a := a)).1 q.1
  have H2 := (in_n (h := h) (d := d + 1) (u := b) (l := 0) (g := 2100) (by decide) (by decide)).1 q.2.1
  have H3 := (in_n (h := h) (d := d + 1) (u := c) (l := 0) (g := 19) (by decide) (by decide)).1 q.2.2.1
  have H4 := (in_n (h := h) (d := d + 1) (u := e) (l := 0) (g := 99) (by decide) (by decide)).1 q.2.2.2
  have ne : ¬ m = (Int8.ofInt 40).toInt32 := fun z => by
    rw [z, show (Int8.ofInt 40).toInt32.toInt = 40 by decide] at hm
    omega
  have wr : ∀ (k : am_H) (x : Nat) (u : Int32), k.1 = h.1 → k.2.2.1 = h.2.2.1 → (x < h.1 ∧ h.2.2.1 x = (1, 0, 40)) → am_wr k x m 0 (.int u) = some (am_put k x m.toInt.toNat (.int u)) := fun k x u q1 q2 A => ax_wrv (by rw [q1]; exact A.1) (by rw [q2]; exact A.2) hm.1 (by omega)
  obtain ⟨g1, e1⟩ : ∃ g1 : am_H, g1 = am_put h 86 m.toInt.toNat (.int a) := ⟨_, rfl⟩
  obtain ⟨g2, e2⟩ : ∃ g2 : am_H, g2 = am_put g1 87 m.toInt.toNat (.int b) := ⟨_, rfl⟩
  obtain ⟨g3, e3⟩ : ∃ g3 : am_H, g3 = am_put g2 88 m.toInt.toNat (.int c) := ⟨_, rfl⟩
  obtain ⟨g4, e4⟩ : ∃ g4 : am_H, g4 = am_put g3 89 m.toInt.toNat (.int e) := ⟨_, rfl⟩
  obtain ⟨g5, e5⟩ : ∃ g5 : am_H, g5 = am_put g4 90 m.toInt.toNat (.int (Int32.ofInt (-1))) := ⟨_, rfl⟩
  have p1 : g1.1 = h.1 ∧ g1.2.2.1 = h.2.2.1 := by
    rw [e1]
    exact ⟨rfl, rfl⟩
  have w1 : am_wr h 86 m 0 (.int a) = some g1 := by
    rw [e1]
    exact wr h 86 a rfl rfl A86
  have r1 : ∀ j, g1.2.2.2 78 j = h.2.2.2 78 j := fun j => by
    rw [e1]
    exact ax_put_o (Or.inl (by decide)) rfl
  have O1 : am_isO g1 78 13 = true := by
    rw [e1]
    exact O
  have p2 : g2.1 = h.1 ∧ g2.2.2.1 = h.2.2.1 := by
    rw [e2]
    exact p1
  have w2 : am_wr g1 87 m 0 (.int b) = some g2 := by
    rw [e2]
    exact wr g1 87 b p1.1 p1.2 A87
  have r2 : ∀ j, g2.2.2.2 78 j = h.2.2.2 78 j := fun j => by
    rw [e2]
    exact ax_put_o (Or.inl (by decide)) (r1 j)
  have O2 : am_isO g2 78 13 = true := by
    rw [e2]
    exact O1
  have p3 : g3.1 = h.1 ∧ g3.2.2.1 = h.2.2.1 := by
    rw [e3]
    exact p2
  have w3 : am_wr g2 88 m 0 (.int c) = some g3 := by
    rw [e3]
    exact wr g2 88 c p2.1 p2.2 A88
  have r3 : ∀ j, g3.2.2.2 78 j = h.2.2.2 78 j := fun j => by
    rw [e3]
    exact ax_put_o (Or.inl (by decide)) (r2 j)
  have O3 : am_isO g3 78 13 = true := by
    rw [e3]
    exact O2
  have p4 : g4.1 = h.1 ∧ g4.2.2.1 = h.2.2.1 := by
    rw [e4]
    exact p3
  have w4 : am_wr g3 89 m 0 (.int e) = some g4 := by
    rw [e4]
    exact wr g3 89 e p3.1 p3.2 A89
  have r4 : ∀ j, g4.2.2.2 78 j = h.2.2.2 78 j := fun j => by
    rw [e4]
    exact ax_put_o (Or.inl (by decide)) (r3 j)
  have O4 : am_isO g4 78 13 = true := by
    rw [e4]
    exact O3
  have p5 : g5.1 = h.1 ∧ g5.2.2.1 = h.2.2.1 := by
    rw [e5]
    exact p4
  have w5 : am_wr g4 90 m 0 (.int (Int32.ofInt (-1))) = some g5 := by
    rw [e5]
    exact wr g4 90 (Int32.ofInt (-1)) p4.1 p4.2 A90
  have r5 : ∀ j, g5.2.2.2 78 j = h.2.2.2 78 j := fun j => by
    rw [e5]
    exact ax_put_o (Or.inl (by decide)) (r4 j)
  have O5 : am_isO g5 78 13 = true := by
    rw [e5]
    exact O4
  refine ⟨am_put g5 78 16 (.int (m + Int32.ofInt 1)), ?_, ax_put_s _ _ _, ax_put_o (Or.inl (by decide)) ?_, ax_put_o (Or.inl (by decide)) ?_, fun j hj => ⟨ax_put_o (Or.inl (by decide)) ?_, ax_put_o (Or.inl (by decide)) ?_⟩⟩
  · refine am_ev.step (pc' := 1) rfl rfl ?_
    refine ax_call (z := 186) (p' := 4) (as := [_]) rfl (Or.inl ⟨_, rfl⟩) rfl rfl rfl rfl rfl rfl rfl rfl H1 rfl ?_
    refine ax_z_eq_N (p' := 7) rfl rfl (by decide : ¬ Int32.ofInt 1 = 0) ?_
    refine am_ev.step (pc' := 8) rfl rfl ?_
    refine am_ev.step (pc' := 9) rfl rfl ?_
    refine am_ev.step (pc' := 10) rfl rfl ?_
    refine am_ev.step (pc' := 13) rfl rfl ?_
    refine ax_call (z := 165) (p' := 16) (as := [_, _, _]) rfl (Or.inl ⟨_, rfl⟩) rfl rfl rfl rfl rfl rfl rfl rfl H2 rfl ?_
    refine ax_z_eq_N (p' := 19) rfl rfl (by decide : ¬ Int32.ofInt 1 = 0) ?_
    refine am_ev.step (pc' := 20) rfl rfl ?_
    refine am_ev.step (pc' := 21) rfl rfl ?_
    refine am_ev.step (pc' := 22) rfl rfl ?_
    refine am_ev.step (pc' := 25) rfl rfl ?_
    refine ax_call (z := 165) (p' := 28) (as := [_, _, _]) rfl (Or.inl ⟨_, rfl⟩) rfl rfl rfl rfl rfl rfl rfl rfl H3 rfl ?_
    refine ax_z_eq_N (p' := 31) rfl rfl (by decide : ¬ Int32.ofInt 1 = 0) ?_
    refine am_ev.step (pc' := 33) rfl rfl ?_
    refine am_ev.step (pc' := 34) rfl rfl ?_
    refine am_ev.step (pc' := 35) rfl rfl ?_
    refine am_ev.step (pc' := 38) rfl rfl ?_
    refine ax_call (z := 165) (p' := 41) (as := [_, _, _]) rfl (Or.inl ⟨_, rfl⟩) rfl rfl rfl rfl rfl rfl rfl rfl H4 rfl ?_
    refine ax_z_ne_T (p' := 47) rfl rfl (by decide : ¬ Int32.ofInt 1 = 0) ?_
    refine am_ev.step (pc' := 48) rfl rfl ?_
    refine ax_gf (p' := 51) rfl rfl O v ?_
    refine am_ev.step (pc' := 53) rfl rfl ?_
    refine ax_c_ne_T (p' := 59) rfl rfl ne ?_
    refine am_ev.step (pc' := 60) rfl rfl ?_
    refine ax_gf (p' := 63) rfl rfl O v17 ?_
    refine am_ev.step (pc' := 64) rfl rfl ?_
    refine ax_gf (p' := 67) rfl rfl O v ?_
    refine am_ev.step (pc' := 68) rfl rfl ?_
    refine ax_iastore (p' := 69) rfl rfl w1 ?_
    refine am_ev.step (pc' := 70) rfl rfl ?_
    refine ax_gf (p' := 73) rfl rfl O1 (Eq.trans (r1 18) v18) ?_
    refine am_ev.step (pc' := 74) rfl rfl ?_
    refine ax_gf (p' := 77) rfl rfl O1 (Eq.trans (r1 16) v) ?_
    refine am_ev.step (pc' := 78) rfl rfl ?_
    refine ax_iastore (p' := 79) rfl rfl w2 ?_
    refine am_ev.step (pc' := 80) rfl rfl ?_
    refine ax_gf (p' := 83) rfl rfl O2 (Eq.trans (r2 19) v19) ?_
    refine am_ev.step (pc' := 84) rfl rfl ?_
    refine ax_gf (p' := 87) rfl rfl O2 (Eq.trans (r2 16) v) ?_
    refine am_ev.step (pc' := 88) rfl rfl ?_
    refine ax_iastore (p' := 89) rfl rfl w3 ?_
    refine am_ev.step (pc' := 90) rfl rfl ?_
    refine ax_gf (p' := 93) rfl rfl O3 (Eq.trans (r3 20) v20) ?_
    refine am_ev.step (pc' := 94) rfl rfl ?_
    refine ax_gf (p' := 97) rfl rfl O3 (Eq.trans (r3 16) v) ?_
    refine am_ev.step (pc' := 99) rfl rfl ?_
    refine ax_iastore (p' := 100) rfl rfl w4 ?_
    refine am_ev.step (pc' := 101) rfl rfl ?_
    refine ax_gf (p' := 104) rfl rfl O4 (Eq.trans (r4 21) v21) ?_
    refine am_ev.step (pc' := 105) rfl rfl ?_
    refine ax_gf (p' := 108) rfl rfl O4 (Eq.trans (r4 16) v) ?_
    refine am_ev.step (pc' := 109) rfl rfl ?_
    refine ax_iastore (p' := 110) rfl rfl w5 ?_
    refine am_ev.step (pc' := 111) rfl rfl ?_
    refine am_ev.step (pc' := 112) rfl rfl ?_
    refine ax_gf (p' := 115) rfl rfl O5 (Eq.trans (r5 16) v) ?_
    refine am_ev.step (pc' := 116) rfl rfl ?_
    refine am_ev.step (pc' := 117) rfl rfl ?_
    refine ax_pf (p' := 120) rfl rfl O5 rfl ?_
    refine am_ev.step (pc' := 121) rfl rfl ?_
    refine ax_gf (p' := 124) rfl rfl O5 (ax_put_s _ _ _) ?_
    refine am_ev.step (pc' := 125) rfl rfl ?_
    refine am_ev.step (pc' := 126) rfl rfl ?_
    exact am_ev.reti rfl rfl rfl
  · rw [e5, e4, e3, e2, e1]
    exact ax_put_o (Or.inl (by decide)) (ax_put_o (Or.inl (by decide)) (ax_put_o (Or.inl (by decide)) (ax_put_o (Or.inl (by decide)) (ax_put_s _ _ _))))
  · rw [e5]
    exact ax_put_s _ _ _
  · rw [e5, e4, e3, e2, e1]
    exact ax_put_o (Or.inl (by decide)) (ax_put_o (Or.inl (by decide)) (ax_put_o (Or.inl (by decide)) (ax_put_o (Or.inl (by decide)) (ax_put_o (Or.inr hj) rfl))))
  · rw [e5, e4, e3, e2, e1]
    exact ax_put_o (Or.inr hj) (ax_put_o (Or.inl (by decide)) (ax_put_o (Or.inl (by decide)) (ax_put_o (Or.inl (by decide)) (ax_put_o (Or.inl (by decide)) rfl))))
end POE
