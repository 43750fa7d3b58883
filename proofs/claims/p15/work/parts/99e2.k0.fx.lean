/-! RUNS STEP BY STEP: a rule for each kind of step that asks something -/
section AXR
variable {d y pc p' : Nat} {ls r : List Value} {h : am_H} {x : Option Value × am_H} {k l a b w : Nat} {t : Int}
theorem ax_gf {i : Nat} {v : Value} (hc : am_at y pc (.getfield k, l, t, a, b, w)) (hp : pc + 3 = p') (O : am_isO h i a = true) (hv : h.2.2.2 i b = v) (q : am_ev d y p' ls (v :: r) h x) : am_ev d y pc ls (.ref i :: r) h x := by
  subst hp
  exact am_ev.step hc (by dsimp only [am_st]; rw [O, hv]; rfl) q
theorem ax_pf {i : Nat} {v : Value} (hc : am_at y pc (.putfield k, l, t, a, b, w)) (hp : pc + 3 = p') (O : am_isO h i a = true) (F : am_fok (am_ty a b) v = true) (q : am_ev d y p' ls r (am_put h i b v) x) : am_ev d y pc ls (v :: .ref i :: r) h x := by
  subst hp
  exact am_ev.step hc (by dsimp only [am_st]; rw [O, F]; rfl) q
theorem ax_iaload {i : Nat} {j : Int32} {v : Value} (hc : am_at y pc (.iaload, l, t, a, b, w)) (hp : pc + 1 = p') (R : am_rd h i j (fun c => Nat.beq c 0) = some v) (q : am_ev d y p' ls (v :: r) h x) : am_ev d y pc ls (.int j :: .ref i :: r) h x := by
  subst hp
  exact am_ev.step hc (by dsimp only [am_st]; rw [R]) q
theorem ax_baload {i : Nat} {j : Int32} {v : Value} (hc : am_at y pc (.baload, l, t, a, b, w)) (hp : pc + 1 = p') (R : am_rd h i j (fun c => Nat.beq c 1 || Nat.beq c 2) = some v) (q : am_ev d y p' ls (v :: r) h x) : am_ev d y pc ls (.int j :: .ref i :: r) h x := by
  subst hp
  exact am_ev.step hc (by dsimp only [am_st]; rw [R]) q
theorem ax_laload {i : Nat} {j : Int32} {v : Value} (hc : am_at y pc (.laload, l, t, a, b, w)) (hp : pc + 1 = p') (R : am_rd h i j (fun c => Nat.beq c 3) = some v) (q : am_ev d y p' ls (v :: r) h x) : am_ev d y pc ls (.int j :: .ref i :: r) h x := by
  subst hp
  exact am_ev.step hc (by dsimp only [am_st]; rw [R]) q
theorem ax_aaload {i : Nat} {j : Int32} {v : Value} (hc : am_at y pc (.aaload, l, t, a, b, w)) (hp : pc + 1 = p') (R : am_rd h i j (fun c => Nat.ble 4 c && am_isA c) = some v) (q : am_ev d y p' ls (v :: r) h x) : am_ev d y pc ls (.int j :: .ref i :: r) h x := by
  subst hp
  exact am_ev.step hc (by dsimp only [am_st]; rw [R]) q
theorem ax_iastore {i : Nat} {j u : Int32} {h' : am_H} (hc : am_at y pc (.iastore, l, t, a, b, w)) (hp : pc + 1 = p') (W : am_wr h i j 0 (.int u) = some h') (q : am_ev d y p' ls r h' x) : am_ev d y pc ls (.int u :: .int j :: .ref i :: r) h x := by
  subst hp
  exact am_ev.step hc (by dsimp only [am_st]; rw [W]) q
theorem ax_aastore {i u : Nat} {j : Int32} {h' : am_H} (hc : am_at y pc (.aastore, l, t, a, b, w)) (hp : pc + 1 = p') (W : am_isO h u (h.2.2.1 u).2.1 = true ∧ am_isA ((h.2.2.1 u).2.1 + 4) = true ∧ am_wr h i j ((h.2.2.1 u).2.1 + 4) (.ref u) = some h') (q : am_ev d y p' ls r h' x) : am_ev d y pc ls (.ref u :: .int j :: .ref i :: r) h x := by
  subst hp
  exact am_ev.step hc (by dsimp only [am_st]; rw [W.1, W.2.1, W.2.2]; rfl) q
theorem ax_len {i n : Nat} (hc : am_at y pc (.arraylength, l, t, a, b, w)) (hp : pc + 1 = p') (N : am_len h i = some n) (q : am_ev d y p' ls (.int (Int32.ofNat n) :: r) h x) : am_ev d y pc ls (.ref i :: r) h x := by
  subst hp
  exact am_ev.step hc (by dsimp only [am_st]; rw [N]) q
theorem ax_c_lt_T {u v : Int32} (hc : am_at y pc (.if_icmp .lt k, l, t, a, b, w)) (hp : t.toNat = p') (c : u < v) (q : am_ev d y p' ls r h x) : am_ev d y pc ls (.int v :: .int u :: r) h x := by
  subst hp
  exact am_ev.step hc (if_pos c) q
theorem ax_c_lt_N {u v : Int32} (hc : am_at y pc (.if_icmp .lt k, l, t, a, b, w)) (hp : pc + 3 = p') (c : ¬ u < v) (q : am_ev d y p' ls r h x) : am_ev d y pc ls (.int v :: .int u :: r) h x := by
  subst hp
  exact am_ev.step hc (if_neg c) q
theorem ax_z_lt_T {u : Int32} (hc : am_at y pc (.ifCond .lt k, l, t, a, b, w)) (hp : t.toNat = p') (c : u < 0) (q : am_ev d y p' ls r h x) : am_ev d y pc ls (.int u :: r) h x := by
  subst hp
  exact am_ev.step hc (if_pos c) q
theorem ax_z_lt_N {u : Int32} (hc : am_at y pc (.ifCond .lt k, l, t, a, b, w)) (hp : pc + 3 = p') (c : ¬ u < 0) (q : am_ev d y p' ls r h x) : am_ev d y pc ls (.int u :: r) h x := by
  subst hp
  exact am_ev.step hc (if_neg c) q
theorem ax_c_ge_T {u v : Int32} (hc : am_at y pc (.if_icmp .ge k, l, t, a, b, w)) (hp : t.toNat = p') (c : v ≤ u) (q : am_ev d y p' ls r h x) : am_ev d y pc ls (.int v :: .int u :: r) h x := by
  subst hp
  exact am_ev.step hc (if_pos c) q
theorem ax_c_ge_N {u v : Int32} (hc : am_at y pc (.if_icmp .ge k, l, t, a, b, w)) (hp : pc + 3 = p') (c : ¬ v ≤ u) (q : am_ev d y p' ls r h x) : am_ev d y pc ls (.int v :: .int u :: r) h x := by
  subst hp
  exact am_ev.step hc (if_neg c) q
theorem ax_z_ge_T {u : Int32} (hc : am_at y pc (.ifCond .ge k, l, t, a, b, w)) (hp : t.toNat = p') (c : 0 ≤ u) (q : am_ev d y p' ls r h x) : am_ev d y pc ls (.int u :: r) h x := by
  subst hp
  exact am_ev.step hc (if_pos c) q
theorem ax_z_ge_N {u : Int32} (hc : am_at y pc (.ifCond .ge k, l, t, a, b, w)) (hp : pc + 3 = p') (c : ¬ 0 ≤ u) (q : am_ev d y p' ls r h x) : am_ev d y pc ls (.int u :: r) h x := by
  subst hp
  exact am_ev.step hc (if_neg c) q
theorem ax_c_gt_T {u v : Int32} (hc : am_at y pc (.if_icmp .gt k, l, t, a, b, w)) (hp : t.toNat = p') (c : v < u) (q : am_ev d y p' ls r h x) : am_ev d y pc ls (.int v :: .int u :: r) h x := by
  subst hp
  exact am_ev.step hc (if_pos c) q
theorem ax_c_gt_N {u v : Int32} (hc : am_at y pc (.if_icmp .gt k, l, t, a, b, w)) (hp : pc + 3 = p') (c : ¬ v < u) (q : am_ev d y p' ls r h x) : am_ev d y pc ls (.int v :: .int u :: r) h x := by
  subst hp
  exact am_ev.step hc (if_neg c) q
theorem ax_z_gt_T {u : Int32} (hc : am_at y pc (.ifCond .gt k, l, t, a, b, w)) (hp : t.toNat = p') (c : 0 < u) (q : am_ev d y p' ls r h x) : am_ev d y pc ls (.int u :: r) h x := by
  subst hp
  exact am_ev.step hc (if_pos c) q
theorem ax_z_gt_N {u : Int32} (hc : am_at y pc (.ifCond .gt k, l, t, a, b, w)) (hp : pc + 3 = p') (c : ¬ 0 < u) (q : am_ev d y p' ls r h x) : am_ev d y pc ls (.int u :: r) h x := by
  subst hp
  exact am_ev.step hc (if_neg c) q
theorem ax_c_le_T {u v : Int32} (hc : am_at y pc (.if_icmp .le k, l, t, a, b, w)) (hp : t.toNat = p') (c : u ≤ v) (q : am_ev d y p' ls r h x) : am_ev d y pc ls (.int v :: .int u :: r) h x := by
  subst hp
  exact am_ev.step hc (if_pos c) q
theorem ax_c_le_N {u v : Int32} (hc : am_at y pc (.if_icmp .le k, l, t, a, b, w)) (hp : pc + 3 = p') (c : ¬ u ≤ v) (q : am_ev d y p' ls r h x) : am_ev d y pc ls (.int v :: .int u :: r) h x := by
  subst hp
  exact am_ev.step hc (if_neg c) q
theorem ax_z_le_T {u : Int32} (hc : am_at y pc (.ifCond .le k, l, t, a, b, w)) (hp : t.toNat = p') (c : u ≤ 0) (q : am_ev d y p' ls r h x) : am_ev d y pc ls (.int u :: r) h x := by
  subst hp
  exact am_ev.step hc (if_pos c) q
theorem ax_z_le_N {u : Int32} (hc : am_at y pc (.ifCond .le k, l, t, a, b, w)) (hp : pc + 3 = p') (c : ¬ u ≤ 0) (q : am_ev d y p' ls r h x) : am_ev d y pc ls (.int u :: r) h x := by
  subst hp
  exact am_ev.step hc (if_neg c) q
theorem ax_c_eq_T {u v : Int32} (hc : am_at y pc (.if_icmp .eq k, l, t, a, b, w)) (hp : t.toNat = p') (c : u = v) (q : am_ev d y p' ls r h x) : am_ev d y pc ls (.int v :: .int u :: r) h x := by
  subst hp
  exact am_ev.step hc (if_pos c) q
theorem ax_c_eq_N {u v : Int32} (hc : am_at y pc (.if_icmp .eq k, l, t, a, b, w)) (hp : pc + 3 = p') (c : ¬ u = v) (q : am_ev d y p' ls r h x) : am_ev d y pc ls (.int v :: .int u :: r) h x := by
  subst hp
  exact am_ev.step hc (if_neg c) q
theorem ax_z_eq_T {u : Int32} (hc : am_at y pc (.ifCond .eq k, l, t, a, b, w)) (hp : t.toNat = p') (c : u = 0) (q : am_ev d y p' ls r h x) : am_ev d y pc ls (.int u :: r) h x := by
  subst hp
  exact am_ev.step hc (if_pos c) q
theorem ax_z_eq_N {u : Int32} (hc : am_at y pc (.ifCond .eq k, l, t, a, b, w)) (hp : pc + 3 = p') (c : ¬ u = 0) (q : am_ev d y p' ls r h x) : am_ev d y pc ls (.int u :: r) h x := by
  subst hp
  exact am_ev.step hc (if_neg c) q
theorem ax_c_ne_T {u v : Int32} (hc : am_at y pc (.if_icmp .ne k, l, t, a, b, w)) (hp : t.toNat = p') (c : ¬ u = v) (q : am_ev d y p' ls r h x) : am_ev d y pc ls (.int v :: .int u :: r) h x := by
  subst hp
  exact am_ev.step hc (if_neg c) q
theorem ax_c_ne_N {u v : Int32} (hc : am_at y pc (.if_icmp .ne k, l, t, a, b, w)) (hp : pc + 3 = p') (c : u = v) (q : am_ev d y p' ls r h x) : am_ev d y pc ls (.int v :: .int u :: r) h x := by
  subst hp
  exact am_ev.step hc (if_pos c) q
theorem ax_z_ne_T {u : Int32} (hc : am_at y pc (.ifCond .ne k, l, t, a, b, w)) (hp : t.toNat = p') (c : ¬ u = 0) (q : am_ev d y p' ls r h x) : am_ev d y pc ls (.int u :: r) h x := by
  subst hp
  exact am_ev.step hc (if_neg c) q
theorem ax_z_ne_N {u : Int32} (hc : am_at y pc (.ifCond .ne k, l, t, a, b, w)) (hp : pc + 3 = p') (c : u = 0) (q : am_ev d y p' ls r h x) : am_ev d y pc ls (.int u :: r) h x := by
  subst hp
  exact am_ev.step hc (if_pos c) q
theorem ax_obj {e : am_E} {i : Nat} (hc : am_at y pc e) (hi : am_isC e.1) (hz : e.2.2.2.1 = 1000) (hcs : Nat.ble (am_cs r) 8 = true) (hp : pc + 3 = p') (q : am_ev (d + 1) y p' ls r h x) : am_ev (d + 1) y pc ls (.ref i :: r) h x := by
  subst hp
  exact am_ev.obj hc hi hz (Nat.le_of_ble_eq_true hcs) q
theorem ax_call {e : am_E} {z : Nat} {as rr st : List Value} {v : Option Value} {h2 : am_H} (hc : am_at y pc e) (hi : am_isC e.1) (hz : e.2.2.2.1 = z) (nz : (Nat.blt 0 z && Nat.blt z 264 && !Nat.beq z 10 && !Nat.beq z 57) = true) (hst : st = as.reverse ++ rr) (hlen : as.length = (am_in z).2.1) (hcs : Nat.ble (am_cs rr) 8 = true) (hw : Nat.ble (am_wid as).length (am_in z).2.2.1 = true) (hrcv : am_rcv z as h = true) (hp : pc + 3 = p') (q1 : am_ev d z 0 (am_ent as (am_in z).2.2.1) [] h (v, h2)) (hv : am_isT v = none) (q2 : am_ev (d + 1) y p' ls (v.toList ++ rr) h2 x) : am_ev (d + 1) y pc ls st h x := by
  subst hz hp
  have n1 := (Bool.and_eq_true _ _ ▸ nz)
  have n2 := (Bool.and_eq_true _ _ ▸ n1.1)
  have n3 := (Bool.and_eq_true _ _ ▸ n2.1)
  refine am_ev.call hc hi ⟨Nat.le_of_ble_eq_true n3.1, Nat.le_of_ble_eq_true n3.2, fun z => ?_, fun z => ?_⟩ hst hlen (Nat.le_of_ble_eq_true hcs) hrcv (Nat.le_of_ble_eq_true hw) q1 hv q2
  · have := n2.2
    rw [z] at this
    cases this
  · have := n1.2
    rw [z] at this
    cases this
end AXR
section AXF
variable {h : am_H}
theorem ax_rdv {a n tc kd : Nat} {i : Int32} {ok : Nat → Bool} (l1 : a < h.1) (s1 : h.2.2.1 a = (kd, tc, n)) (k1 : (Nat.beq kd 1 || Nat.beq kd 2) = true) (o1 : ok tc = true) (i0 : 0 ≤ i.toInt) (i1 : i.toInt < n) : am_rd h a i ok = some (h.2.2.2 a i.toInt.toNat) := by
  unfold am_rd
  rw [s1]
  dsimp only
  rw [show Nat.blt a h.1 = true from Nat.ble_eq_true_of_le l1, k1, o1]
  have e : i.toNatClampNeg = i.toInt.toNat := rfl
  rw [e]
  show (if i < 0 ∨ n ≤ i.toInt.toNat then none else some (h.2.2.2 a i.toInt.toNat)) = _
  rw [if_neg]
  rintro (z | z)
  · have := Int32.lt_iff_toInt_lt.1 z
    rw [show (0 : Int32).toInt = 0 by decide] at this
    omega
  · omega
theorem ax_wrv {a n tc : Nat} {i : Int32} {v : Value} (l1 : a < h.1) (s1 : h.2.2.1 a = (1, tc, n)) (i0 : 0 ≤ i.toInt) (i1 : i.toInt < n) : am_wr h a i tc v = some (am_put h a i.toInt.toNat v) := by
  unfold am_wr
  rw [s1]
  dsimp only
  rw [show Nat.blt a h.1 = true from Nat.ble_eq_true_of_le l1, show Nat.beq tc tc = true from Nat.beq_refl tc]
  have e : i.toNatClampNeg = i.toInt.toNat := rfl
  rw [e]
  show (if i < 0 ∨ n ≤ i.toInt.toNat then none else some (am_put h a i.toInt.toNat v)) = _
  rw [if_neg]
  rintro (z | z)
  · have := Int32.lt_iff_toInt_lt.1 z
    rw [show (0 : Int32).toInt = 0 by decide] at this
    omega
  · omega
theorem ax_put_s (k j : Nat) (v : Value) : (am_put h k j v).2.2.2 k j = v := by
  show (if k = k then (if j = j then v else h.2.2.2 k j) else h.2.2.2 k j) = v
  rw [if_pos rfl, if_pos rfl]
theorem ax_put_o {k j a b : Nat} {v w : Value} (n : a ≠ k ∨ b ≠ j) (q : h.2.2.2 a b = w) : (am_put h k j v).2.2.2 a b = w := by
  show (if a = k then (if b = j then v else h.2.2.2 a b) else h.2.2.2 a b) = w
  by_cases e1 : a = k
  · rw [if_pos e1]
    by_cases e2 : b = j
    · rcases n with z | z
      · exact absurd e1 z
      · exact absurd e2 z
    · rw [if_neg e2]
      exact q
  · rw [if_neg e1]
    exact q
/-- one run has one end -/
theorem ax_det {d y pc : Nat} {ls st : List Value} {x x' : Option Value × am_H} (q : am_ev d y pc ls st h x) (q' : am_ev d y pc ls st h x') : x = x' := by
  obtain ⟨n, q⟩ := q
  obtain ⟨n', q'⟩ := q'
  have a := am_run_le (Nat.le_max_left n n') q
  have b := am_run_le (Nat.le_max_right n n') q'
  rw [a] at b
  exact Option.some.inj b
end AXF
/-! VALUES BY INTEGERS: rules for steps -/
abbrev iv (e : Int) : Value := .int (Int32.ofInt e)
theorem fx_ti {e : Int} (h : -2147483648 ≤ e ∧ e ≤ 2147483647) : (Int32.ofInt e).toInt = e := Int32.toInt_ofInt_of_le (by omega) (by omega)
theorem iv_add (x1 x2 : Int) : iv (x1 + x2) = .int (Int32.ofInt x1 + Int32.ofInt x2) := congrArg Value.int (Int32.ofInt_add x1 x2)
theorem iv_sub (x1 x2 : Int) : iv (x1 - x2) = .int (Int32.ofInt x1 - Int32.ofInt x2) := congrArg Value.int (Int32.ofInt_sub x1 x2)
theorem iv_mul (x1 x2 : Int) : iv (x1 * x2) = .int (Int32.ofInt x1 * Int32.ofInt x2) := congrArg Value.int (Int32.ofInt_mul x1 x2)
theorem fx_of (x : Int32) : Value.int x = iv x.toInt := by
  show Value.int x = Value.int (Int32.ofInt x.toInt)
  rw [Int32.ofInt_toInt]
section FXS
variable {d y pc p' : Nat} {ls ls' r : List Value} {h : am_H} {x : Option Value × am_H} {k l a b w : Nat} {t ko : Int} {x1 x2 e : Int}
theorem fx_add (hc : am_at y pc (.iadd, l, t, a, b, w)) (hp : pc + 1 = p') (he : x1 + x2 = e) (q : am_ev d y p' ls (iv e :: r) h x) : am_ev d y pc ls (iv x2 :: iv x1 :: r) h x := by
  subst hp he
  rw [iv_add] at q
  exact am_ev.step hc rfl q
theorem fx_sub (hc : am_at y pc (.isub, l, t, a, b, w)) (hp : pc + 1 = p') (he : x1 - x2 = e) (q : am_ev d y p' ls (iv e :: r) h x) : am_ev d y pc ls (iv x2 :: iv x1 :: r) h x := by
  subst hp he
  rw [iv_sub] at q
  exact am_ev.step hc rfl q
theorem fx_mul (hc : am_at y pc (.imul, l, t, a, b, w)) (hp : pc + 1 = p') (he : x1 * x2 = e) (q : am_ev d y p' ls (iv e :: r) h x) : am_ev d y pc ls (iv x2 :: iv x1 :: r) h x := by
  subst hp he
  rw [iv_mul] at q
  exact am_ev.step hc rfl q
theorem fx_bip {n : Int} (hc : am_at y pc (.bipush n, l, t, a, b, w)) (hp : pc + 2 = p') (hv : (Int8.ofInt n).toInt32 = Int32.ofInt n) (q : am_ev d y p' ls (iv n :: r) h x) : am_ev d y pc ls r h x := by
  subst hp
  refine am_ev.step hc rfl ?_
  rw [hv]
  exact q
theorem fx_sip {n : Int} (hc : am_at y pc (.sipush n, l, t, a, b, w)) (hp : pc + 3 = p') (hv : (Int16.ofInt n).toInt32 = Int32.ofInt n) (q : am_ev d y p' ls (iv n :: r) h x) : am_ev d y pc ls r h x := by
  subst hp
  refine am_ev.step hc rfl ?_
  rw [hv]
  exact q
theorem fx_inc {i : Nat} {n : Int} (hc : am_at y pc (.iinc i n, l, t, a, b, w)) (hp : pc + 3 = p') (hl : ls[i]? = some (iv x1)) (he : x1 + n = e) (hs : am_set1 ls i (iv e) = ls') (q : am_ev d y p' ls' r h x) : am_ev d y pc ls r h x := by
  subst hp he hs
  rw [iv_add] at q
  exact am_ev.step hc (by dsimp only [am_st]; rw [hl]) q
theorem fx_reti {v : Int32} (hc : am_at y pc (.ireturn, l, t, a, b, w)) (hv : am_rok (am_rt y) v = true) (hx : x = (some (.int v), h)) : am_ev d y pc ls [.int v] h x := by
  subst hx
  exact am_ev.reti hc rfl hv
theorem fx_cast {x' : Option Value × am_H} (q : am_ev d y pc ls r h x') (hx : x = x') : am_ev d y pc ls r h x := by
  subst hx
  exact q

theorem fx_cJ_lt {x1 x2 : Int} (b1 : -2147483648 ≤ x1 ∧ x1 ≤ 2147483647) (b2 : -2147483648 ≤ x2 ∧ x2 ≤ 2147483647) : (Int32.ofInt x1 < Int32.ofInt x2) ↔ x1 < x2 := by
  rw [Int32.lt_iff_toInt_lt, fx_ti b1, fx_ti b2]
theorem fx_c_lt {pT pF : Nat} (hc : am_at y pc (.if_icmp .lt ko, l, t, a, b, w)) (b1 : -2147483648 ≤ x1 ∧ x1 ≤ 2147483647) (b2 : -2147483648 ≤ x2 ∧ x2 ≤ 2147483647) (hT : t.toNat = pT) (hF : pc + 3 = pF) (qT : x1 < x2 → am_ev d y pT ls r h x) (qF : x2 ≤ x1 → am_ev d y pF ls r h x) : am_ev d y pc ls (iv x2 :: iv x1 :: r) h x := by
  subst hT hF
  by_cases c : x1 < x2
  · exact am_ev.step hc (if_pos ((fx_cJ_lt b1 b2).2 c)) (qT c)
  · exact am_ev.step hc (if_neg (mt (fx_cJ_lt b1 b2).1 c)) (qF (by omega))
theorem fx_c_lt_T {pT : Nat} (hc : am_at y pc (.if_icmp .lt ko, l, t, a, b, w)) (b1 : -2147483648 ≤ x1 ∧ x1 ≤ 2147483647) (b2 : -2147483648 ≤ x2 ∧ x2 ≤ 2147483647) (hT : t.toNat = pT) (c : x1 < x2) (q : am_ev d y pT ls r h x) : am_ev d y pc ls (iv x2 :: iv x1 :: r) h x := fx_c_lt hc b1 b2 hT rfl (fun _ => q) (fun z => absurd z (by omega))
theorem fx_c_lt_F {pF : Nat} (hc : am_at y pc (.if_icmp .lt ko, l, t, a, b, w)) (b1 : -2147483648 ≤ x1 ∧ x1 ≤ 2147483647) (b2 : -2147483648 ≤ x2 ∧ x2 ≤ 2147483647) (hF : pc + 3 = pF) (c : x2 ≤ x1) (q : am_ev d y pF ls r h x) : am_ev d y pc ls (iv x2 :: iv x1 :: r) h x := fx_c_lt hc b1 b2 rfl hF (fun z => absurd z (by omega)) (fun _ => q)
theorem fx_cJ_ge {x1 x2 : Int} (b1 : -2147483648 ≤ x1 ∧ x1 ≤ 2147483647) (b2 : -2147483648 ≤ x2 ∧ x2 ≤ 2147483647) : (Int32.ofInt x2 ≤ Int32.ofInt x1) ↔ x2 ≤ x1 := by
  rw [Int32.le_iff_toInt_le, fx_ti b1, fx_ti b2]
theorem fx_c_ge {pT pF : Nat} (hc : am_at y pc (.if_icmp .ge ko, l, t, a, b, w)) (b1 : -2147483648 ≤ x1 ∧ x1 ≤ 2147483647) (b2 : -2147483648 ≤ x2 ∧ x2 ≤ 2147483647) (hT : t.toNat = pT) (hF : pc + 3 = pF) (qT : x2 ≤ x1 → am_ev d y pT ls r h x) (qF : x1 < x2 → am_ev d y pF ls r h x) : am_ev d y pc ls (iv x2 :: iv x1 :: r) h x := by
  subst hT hF
  by_cases c : x2 ≤ x1
  · exact am_ev.step hc (if_pos ((fx_cJ_ge b1 b2).2 c)) (qT c)
  · exact am_ev.step hc (if_neg (mt (fx_cJ_ge b1 b2).1 c)) (qF (by omega))
theorem fx_c_ge_T {pT : Nat} (hc : am_at y pc (.if_icmp .ge ko, l, t, a, b, w)) (b1 : -2147483648 ≤ x1 ∧ x1 ≤ 2147483647) (b2 : -2147483648 ≤ x2 ∧ x2 ≤ 2147483647) (hT : t.toNat = pT) (c : x2 ≤ x1) (q : am_ev d y pT ls r h x) : am_ev d y pc ls (iv x2 :: iv x1 :: r) h x := fx_c_ge hc b1 b2 hT rfl (fun _ => q) (fun z => absurd z (by omega))
theorem fx_c_ge_F {pF : Nat} (hc : am_at y pc (.if_icmp .ge ko, l, t, a, b, w)) (b1 : -2147483648 ≤ x1 ∧ x1 ≤ 2147483647) (b2 : -2147483648 ≤ x2 ∧ x2 ≤ 2147483647) (hF : pc + 3 = pF) (c : x1 < x2) (q : am_ev d y pF ls r h x) : am_ev d y pc ls (iv x2 :: iv x1 :: r) h x := fx_c_ge hc b1 b2 rfl hF (fun z => absurd z (by omega)) (fun _ => q)
theorem fx_cJ_gt {x1 x2 : Int} (b1 : -2147483648 ≤ x1 ∧ x1 ≤ 2147483647) (b2 : -2147483648 ≤ x2 ∧ x2 ≤ 2147483647) : (Int32.ofInt x2 < Int32.ofInt x1) ↔ x2 < x1 := by
  rw [Int32.lt_iff_toInt_lt, fx_ti b1, fx_ti b2]
theorem fx_c_gt {pT pF : Nat} (hc : am_at y pc (.if_icmp .gt ko, l, t, a, b, w)) (b1 : -2147483648 ≤ x1 ∧ x1 ≤ 2147483647) (b2 : -2147483648 ≤ x2 ∧ x2 ≤ 2147483647) (hT : t.toNat = pT) (hF : pc + 3 = pF) (qT : x2 < x1 → am_ev d y pT ls r h x) (qF : x1 ≤ x2 → am_ev d y pF ls r h x) : am_ev d y pc ls (iv x2 :: iv x1 :: r) h x := by
  subst hT hF
  by_cases c : x2 < x1
  · exact am_ev.step hc (if_pos ((fx_cJ_gt b1 b2).2 c)) (qT c)
  · exact am_ev.step hc (if_neg (mt (fx_cJ_gt b1 b2).1 c)) (qF (by omega))
theorem fx_c_gt_T {pT : Nat} (hc : am_at y pc (.if_icmp .gt ko, l, t, a, b, w)) (b1 : -2147483648 ≤ x1 ∧ x1 ≤ 2147483647) (b2 : -2147483648 ≤ x2 ∧ x2 ≤ 2147483647) (hT : t.toNat = pT) (c : x2 < x1) (q : am_ev d y pT ls r h x) : am_ev d y pc ls (iv x2 :: iv x1 :: r) h x := fx_c_gt hc b1 b2 hT rfl (fun _ => q) (fun z => absurd z (by omega))
theorem fx_c_gt_F {pF : Nat} (hc : am_at y pc (.if_icmp .gt ko, l, t, a, b, w)) (b1 : -2147483648 ≤ x1 ∧ x1 ≤ 2147483647) (b2 : -2147483648 ≤ x2 ∧ x2 ≤ 2147483647) (hF : pc + 3 = pF) (c : x1 ≤ x2) (q : am_ev d y pF ls r h x) : am_ev d y pc ls (iv x2 :: iv x1 :: r) h x := fx_c_gt hc b1 b2 rfl hF (fun z => absurd z (by omega)) (fun _ => q)
theorem fx_cJ_le {x1 x2 : Int} (b1 : -2147483648 ≤ x1 ∧ x1 ≤ 2147483647) (b2 : -2147483648 ≤ x2 ∧ x2 ≤ 2147483647) : (Int32.ofInt x1 ≤ Int32.ofInt x2) ↔ x1 ≤ x2 := by
  rw [Int32.le_iff_toInt_le, fx_ti b1, fx_ti b2]
theorem fx_c_le {pT pF : Nat} (hc : am_at y pc (.if_icmp .le ko, l, t, a, b, w)) (b1 : -2147483648 ≤ x1 ∧ x1 ≤ 2147483647) (b2 : -2147483648 ≤ x2 ∧ x2 ≤ 2147483647) (hT : t.toNat = pT) (hF : pc + 3 = pF) (qT : x1 ≤ x2 → am_ev d y pT ls r h x) (qF : x2 < x1 → am_ev d y pF ls r h x) : am_ev d y pc ls (iv x2 :: iv x1 :: r) h x := by
  subst hT hF
  by_cases c : x1 ≤ x2
  · exact am_ev.step hc (if_pos ((fx_cJ_le b1 b2).2 c)) (qT c)
  · exact am_ev.step hc (if_neg (mt (fx_cJ_le b1 b2).1 c)) (qF (by omega))
theorem fx_c_le_T {pT : Nat} (hc : am_at y pc (.if_icmp .le ko, l, t, a, b, w)) (b1 : -2147483648 ≤ x1 ∧ x1 ≤ 2147483647) (b2 : -2147483648 ≤ x2 ∧ x2 ≤ 2147483647) (hT : t.toNat = pT) (c : x1 ≤ x2) (q : am_ev d y pT ls r h x) : am_ev d y pc ls (iv x2 :: iv x1 :: r) h x := fx_c_le hc b1 b2 hT rfl (fun _ => q) (fun z => absurd z (by omega))
theorem fx_c_le_F {pF : Nat} (hc : am_at y pc (.if_icmp .le ko, l, t, a, b, w)) (b1 : -2147483648 ≤ x1 ∧ x1 ≤ 2147483647) (b2 : -2147483648 ≤ x2 ∧ x2 ≤ 2147483647) (hF : pc + 3 = pF) (c : x2 < x1) (q : am_ev d y pF ls r h x) : am_ev d y pc ls (iv x2 :: iv x1 :: r) h x := fx_c_le hc b1 b2 rfl hF (fun z => absurd z (by omega)) (fun _ => q)
theorem fx_cJ_eq {x1 x2 : Int} (b1 : -2147483648 ≤ x1 ∧ x1 ≤ 2147483647) (b2 : -2147483648 ≤ x2 ∧ x2 ≤ 2147483647) : (Int32.ofInt x1 = Int32.ofInt x2) ↔ x1 = x2 := by
  refine ⟨fun z => ?_, fun z => ?_⟩
  · have z := congrArg Int32.toInt z
    rw [fx_ti b1, fx_ti b2] at z
    exact z
  · apply Int32.toInt_inj.1
    rw [fx_ti b1, fx_ti b2]
    exact z
theorem fx_c_eq {pT pF : Nat} (hc : am_at y pc (.if_icmp .eq ko, l, t, a, b, w)) (b1 : -2147483648 ≤ x1 ∧ x1 ≤ 2147483647) (b2 : -2147483648 ≤ x2 ∧ x2 ≤ 2147483647) (hT : t.toNat = pT) (hF : pc + 3 = pF) (qT : x1 = x2 → am_ev d y pT ls r h x) (qF : x1 ≠ x2 → am_ev d y pF ls r h x) : am_ev d y pc ls (iv x2 :: iv x1 :: r) h x := by
  subst hT hF
  by_cases c : x1 = x2
  · exact am_ev.step hc (if_pos ((fx_cJ_eq b1 b2).2 c)) (qT c)
  · exact am_ev.step hc (if_neg (mt (fx_cJ_eq b1 b2).1 c)) (qF (by omega))
theorem fx_c_eq_T {pT : Nat} (hc : am_at y pc (.if_icmp .eq ko, l, t, a, b, w)) (b1 : -2147483648 ≤ x1 ∧ x1 ≤ 2147483647) (b2 : -2147483648 ≤ x2 ∧ x2 ≤ 2147483647) (hT : t.toNat = pT) (c : x1 = x2) (q : am_ev d y pT ls r h x) : am_ev d y pc ls (iv x2 :: iv x1 :: r) h x := fx_c_eq hc b1 b2 hT rfl (fun _ => q) (fun z => absurd z (by omega))
theorem fx_c_eq_F {pF : Nat} (hc : am_at y pc (.if_icmp .eq ko, l, t, a, b, w)) (b1 : -2147483648 ≤ x1 ∧ x1 ≤ 2147483647) (b2 : -2147483648 ≤ x2 ∧ x2 ≤ 2147483647) (hF : pc + 3 = pF) (c : x1 ≠ x2) (q : am_ev d y pF ls r h x) : am_ev d y pc ls (iv x2 :: iv x1 :: r) h x := fx_c_eq hc b1 b2 rfl hF (fun z => absurd z (by omega)) (fun _ => q)
theorem fx_cJ_ne {x1 x2 : Int} (b1 : -2147483648 ≤ x1 ∧ x1 ≤ 2147483647) (b2 : -2147483648 ≤ x2 ∧ x2 ≤ 2147483647) : (Int32.ofInt x1 = Int32.ofInt x2) ↔ x1 = x2 := by
  refine ⟨fun z => ?_, fun z => ?_⟩
  · have z := congrArg Int32.toInt z
    rw [fx_ti b1, fx_ti b2] at z
    exact z
  · apply Int32.toInt_inj.1
    rw [fx_ti b1, fx_ti b2]
    exact z
theorem fx_c_ne {pT pF : Nat} (hc : am_at y pc (.if_icmp .ne ko, l, t, a, b, w)) (b1 : -2147483648 ≤ x1 ∧ x1 ≤ 2147483647) (b2 : -2147483648 ≤ x2 ∧ x2 ≤ 2147483647) (hT : t.toNat = pT) (hF : pc + 3 = pF) (qT : x1 ≠ x2 → am_ev d y pT ls r h x) (qF : x1 = x2 → am_ev d y pF ls r h x) : am_ev d y pc ls (iv x2 :: iv x1 :: r) h x := by
  subst hT hF
  by_cases c : x1 = x2
  · exact am_ev.step hc (if_pos ((fx_cJ_ne b1 b2).2 c)) (qF c)
  · exact am_ev.step hc (if_neg (mt (fx_cJ_ne b1 b2).1 c)) (qT c)
theorem fx_c_ne_T {pT : Nat} (hc : am_at y pc (.if_icmp .ne ko, l, t, a, b, w)) (b1 : -2147483648 ≤ x1 ∧ x1 ≤ 2147483647) (b2 : -2147483648 ≤ x2 ∧ x2 ≤ 2147483647) (hT : t.toNat = pT) (c : x1 ≠ x2) (q : am_ev d y pT ls r h x) : am_ev d y pc ls (iv x2 :: iv x1 :: r) h x := fx_c_ne hc b1 b2 hT rfl (fun _ => q) (fun z => absurd z (by omega))
theorem fx_c_ne_F {pF : Nat} (hc : am_at y pc (.if_icmp .ne ko, l, t, a, b, w)) (b1 : -2147483648 ≤ x1 ∧ x1 ≤ 2147483647) (b2 : -2147483648 ≤ x2 ∧ x2 ≤ 2147483647) (hF : pc + 3 = pF) (c : x1 = x2) (q : am_ev d y pF ls r h x) : am_ev d y pc ls (iv x2 :: iv x1 :: r) h x := fx_c_ne hc b1 b2 rfl hF (fun z => absurd z (by omega)) (fun _ => q)
theorem fx_zJ_lt {x1 : Int} (b1 : -2147483648 ≤ x1 ∧ x1 ≤ 2147483647) : (Int32.ofInt x1 < 0) ↔ x1 < 0 := by
  rw [Int32.lt_iff_toInt_lt, fx_ti b1, show (0 : Int32).toInt = 0 by decide]
theorem fx_z_lt {pT pF : Nat} (hc : am_at y pc (.ifCond .lt ko, l, t, a, b, w)) (b1 : -2147483648 ≤ x1 ∧ x1 ≤ 2147483647) (hT : t.toNat = pT) (hF : pc + 3 = pF) (qT : x1 < 0 → am_ev d y pT ls r h x) (qF : 0 ≤ x1 → am_ev d y pF ls r h x) : am_ev d y pc ls (iv x1 :: r) h x := by
  subst hT hF
  by_cases c : x1 < 0
  · exact am_ev.step hc (if_pos ((fx_zJ_lt b1).2 c)) (qT c)
  · exact am_ev.step hc (if_neg (mt (fx_zJ_lt b1).1 c)) (qF (by omega))
theorem fx_z_lt_T {pT : Nat} (hc : am_at y pc (.ifCond .lt ko, l, t, a, b, w)) (b1 : -2147483648 ≤ x1 ∧ x1 ≤ 2147483647) (hT : t.toNat = pT) (c : x1 < 0) (q : am_ev d y pT ls r h x) : am_ev d y pc ls (iv x1 :: r) h x := fx_z_lt hc b1 hT rfl (fun _ => q) (fun z => absurd z (by omega))
theorem fx_z_lt_F {pF : Nat} (hc : am_at y pc (.ifCond .lt ko, l, t, a, b, w)) (b1 : -2147483648 ≤ x1 ∧ x1 ≤ 2147483647) (hF : pc + 3 = pF) (c : 0 ≤ x1) (q : am_ev d y pF ls r h x) : am_ev d y pc ls (iv x1 :: r) h x := fx_z_lt hc b1 rfl hF (fun z => absurd z (by omega)) (fun _ => q)
theorem fx_zJ_ge {x1 : Int} (b1 : -2147483648 ≤ x1 ∧ x1 ≤ 2147483647) : (0 ≤ Int32.ofInt x1) ↔ 0 ≤ x1 := by
  rw [Int32.le_iff_toInt_le, fx_ti b1, show (0 : Int32).toInt = 0 by decide]
theorem fx_z_ge {pT pF : Nat} (hc : am_at y pc (.ifCond .ge ko, l, t, a, b, w)) (b1 : -2147483648 ≤ x1 ∧ x1 ≤ 2147483647) (hT : t.toNat = pT) (hF : pc + 3 = pF) (qT : 0 ≤ x1 → am_ev d y pT ls r h x) (qF : x1 < 0 → am_ev d y pF ls r h x) : am_ev d y pc ls (iv x1 :: r) h x := by
  subst hT hF
  by_cases c : 0 ≤ x1
  · exact am_ev.step hc (if_pos ((fx_zJ_ge b1).2 c)) (qT c)
  · exact am_ev.step hc (if_neg (mt (fx_zJ_ge b1).1 c)) (qF (by omega))
theorem fx_z_ge_T {pT : Nat} (hc : am_at y pc (.ifCond .ge ko, l, t, a, b, w)) (b1 : -2147483648 ≤ x1 ∧ x1 ≤ 2147483647) (hT : t.toNat = pT) (c : 0 ≤ x1) (q : am_ev d y pT ls r h x) : am_ev d y pc ls (iv x1 :: r) h x := fx_z_ge hc b1 hT rfl (fun _ => q) (fun z => absurd z (by omega))
theorem fx_z_ge_F {pF : Nat} (hc : am_at y pc (.ifCond .ge ko, l, t, a, b, w)) (b1 : -2147483648 ≤ x1 ∧ x1 ≤ 2147483647) (hF : pc + 3 = pF) (c : x1 < 0) (q : am_ev d y pF ls r h x) : am_ev d y pc ls (iv x1 :: r) h x := fx_z_ge hc b1 rfl hF (fun z => absurd z (by omega)) (fun _ => q)
theorem fx_zJ_gt {x1 : Int} (b1 : -2147483648 ≤ x1 ∧ x1 ≤ 2147483647) : (0 < Int32.ofInt x1) ↔ 0 < x1 := by
  rw [Int32.lt_iff_toInt_lt, fx_ti b1, show (0 : Int32).toInt = 0 by decide]
theorem fx_z_gt {pT pF : Nat} (hc : am_at y pc (.ifCond .gt ko, l, t, a, b, w)) (b1 : -2147483648 ≤ x1 ∧ x1 ≤ 2147483647) (hT : t.toNat = pT) (hF : pc + 3 = pF) (qT : 0 < x1 → am_ev d y pT ls r h x) (qF : x1 ≤ 0 → am_ev d y pF ls r h x) : am_ev d y pc ls (iv x1 :: r) h x := by
  subst hT hF
  by_cases c : 0 < x1
  · exact am_ev.step hc (if_pos ((fx_zJ_gt b1).2 c)) (qT c)
  · exact am_ev.step hc (if_neg (mt (fx_zJ_gt b1).1 c)) (qF (by omega))
theorem fx_z_gt_T {pT : Nat} (hc : am_at y pc (.ifCond .gt ko, l, t, a, b, w)) (b1 : -2147483648 ≤ x1 ∧ x1 ≤ 2147483647) (hT : t.toNat = pT) (c : 0 < x1) (q : am_ev d y pT ls r h x) : am_ev d y pc ls (iv x1 :: r) h x := fx_z_gt hc b1 hT rfl (fun _ => q) (fun z => absurd z (by omega))
theorem fx_z_gt_F {pF : Nat} (hc : am_at y pc (.ifCond .gt ko, l, t, a, b, w)) (b1 : -2147483648 ≤ x1 ∧ x1 ≤ 2147483647) (hF : pc + 3 = pF) (c : x1 ≤ 0) (q : am_ev d y pF ls r h x) : am_ev d y pc ls (iv x1 :: r) h x := fx_z_gt hc b1 rfl hF (fun z => absurd z (by omega)) (fun _ => q)
theorem fx_zJ_le {x1 : Int} (b1 : -2147483648 ≤ x1 ∧ x1 ≤ 2147483647) : (Int32.ofInt x1 ≤ 0) ↔ x1 ≤ 0 := by
  rw [Int32.le_iff_toInt_le, fx_ti b1, show (0 : Int32).toInt = 0 by decide]
theorem fx_z_le {pT pF : Nat} (hc : am_at y pc (.ifCond .le ko, l, t, a, b, w)) (b1 : -2147483648 ≤ x1 ∧ x1 ≤ 2147483647) (hT : t.toNat = pT) (hF : pc + 3 = pF) (qT : x1 ≤ 0 → am_ev d y pT ls r h x) (qF : 0 < x1 → am_ev d y pF ls r h x) : am_ev d y pc ls (iv x1 :: r) h x := by
  subst hT hF
  by_cases c : x1 ≤ 0
  · exact am_ev.step hc (if_pos ((fx_zJ_le b1).2 c)) (qT c)
  · exact am_ev.step hc (if_neg (mt (fx_zJ_le b1).1 c)) (qF (by omega))
theorem fx_z_le_T {pT : Nat} (hc : am_at y pc (.ifCond .le ko, l, t, a, b, w)) (b1 : -2147483648 ≤ x1 ∧ x1 ≤ 2147483647) (hT : t.toNat = pT) (c : x1 ≤ 0) (q : am_ev d y pT ls r h x) : am_ev d y pc ls (iv x1 :: r) h x := fx_z_le hc b1 hT rfl (fun _ => q) (fun z => absurd z (by omega))
theorem fx_z_le_F {pF : Nat} (hc : am_at y pc (.ifCond .le ko, l, t, a, b, w)) (b1 : -2147483648 ≤ x1 ∧ x1 ≤ 2147483647) (hF : pc + 3 = pF) (c : 0 < x1) (q : am_ev d y pF ls r h x) : am_ev d y pc ls (iv x1 :: r) h x := fx_z_le hc b1 rfl hF (fun z => absurd z (by omega)) (fun _ => q)
theorem fx_zJ_eq {x1 : Int} (b1 : -2147483648 ≤ x1 ∧ x1 ≤ 2147483647) : (Int32.ofInt x1 = 0) ↔ x1 = 0 := by
  refine ⟨fun z => ?_, fun z => ?_⟩
  · have z := congrArg Int32.toInt z
    rw [fx_ti b1, show (0 : Int32).toInt = 0 by decide] at z
    exact z
  · apply Int32.toInt_inj.1
    rw [fx_ti b1, show (0 : Int32).toInt = 0 by decide]
    exact z
theorem fx_z_eq {pT pF : Nat} (hc : am_at y pc (.ifCond .eq ko, l, t, a, b, w)) (b1 : -2147483648 ≤ x1 ∧ x1 ≤ 2147483647) (hT : t.toNat = pT) (hF : pc + 3 = pF) (qT : x1 = 0 → am_ev d y pT ls r h x) (qF : x1 ≠ 0 → am_ev d y pF ls r h x) : am_ev d y pc ls (iv x1 :: r) h x := by
  subst hT hF
  by_cases c : x1 = 0
  · exact am_ev.step hc (if_pos ((fx_zJ_eq b1).2 c)) (qT c)
  · exact am_ev.step hc (if_neg (mt (fx_zJ_eq b1).1 c)) (qF (by omega))
theorem fx_z_eq_T {pT : Nat} (hc : am_at y pc (.ifCond .eq ko, l, t, a, b, w)) (b1 : -2147483648 ≤ x1 ∧ x1 ≤ 2147483647) (hT : t.toNat = pT) (c : x1 = 0) (q : am_ev d y pT ls r h x) : am_ev d y pc ls (iv x1 :: r) h x := fx_z_eq hc b1 hT rfl (fun _ => q) (fun z => absurd z (by omega))
theorem fx_z_eq_F {pF : Nat} (hc : am_at y pc (.ifCond .eq ko, l, t, a, b, w)) (b1 : -2147483648 ≤ x1 ∧ x1 ≤ 2147483647) (hF : pc + 3 = pF) (c : x1 ≠ 0) (q : am_ev d y pF ls r h x) : am_ev d y pc ls (iv x1 :: r) h x := fx_z_eq hc b1 rfl hF (fun z => absurd z (by omega)) (fun _ => q)
theorem fx_zJ_ne {x1 : Int} (b1 : -2147483648 ≤ x1 ∧ x1 ≤ 2147483647) : (Int32.ofInt x1 = 0) ↔ x1 = 0 := by
  refine ⟨fun z => ?_, fun z => ?_⟩
  · have z := congrArg Int32.toInt z
    rw [fx_ti b1, show (0 : Int32).toInt = 0 by decide] at z
    exact z
  · apply Int32.toInt_inj.1
    rw [fx_ti b1, show (0 : Int32).toInt = 0 by decide]
    exact z
theorem fx_z_ne {pT pF : Nat} (hc : am_at y pc (.ifCond .ne ko, l, t, a, b, w)) (b1 : -2147483648 ≤ x1 ∧ x1 ≤ 2147483647) (hT : t.toNat = pT) (hF : pc + 3 = pF) (qT : x1 ≠ 0 → am_ev d y pT ls r h x) (qF : x1 = 0 → am_ev d y pF ls r h x) : am_ev d y pc ls (iv x1 :: r) h x := by
  subst hT hF
  by_cases c : x1 = 0
  · exact am_ev.step hc (if_pos ((fx_zJ_ne b1).2 c)) (qF c)
  · exact am_ev.step hc (if_neg (mt (fx_zJ_ne b1).1 c)) (qT c)
theorem fx_z_ne_T {pT : Nat} (hc : am_at y pc (.ifCond .ne ko, l, t, a, b, w)) (b1 : -2147483648 ≤ x1 ∧ x1 ≤ 2147483647) (hT : t.toNat = pT) (c : x1 ≠ 0) (q : am_ev d y pT ls r h x) : am_ev d y pc ls (iv x1 :: r) h x := fx_z_ne hc b1 hT rfl (fun _ => q) (fun z => absurd z (by omega))
theorem fx_z_ne_F {pF : Nat} (hc : am_at y pc (.ifCond .ne ko, l, t, a, b, w)) (b1 : -2147483648 ≤ x1 ∧ x1 ≤ 2147483647) (hF : pc + 3 = pF) (c : x1 = 0) (q : am_ev d y pF ls r h x) : am_ev d y pc ls (iv x1 :: r) h x := fx_z_ne hc b1 rfl hF (fun z => absurd z (by omega)) (fun _ => q)
end FXS
/-! WHAT NO CALL CHANGES: kinds of the fixed cells, the static rows, the references -/
def fS (h : am_H) : Prop := 130 ≤ h.1 ∧ (∀ c, 40 ≤ c → c < 130 → h.2.2.1 c = cq_fix c) ∧ (∀ c, 1 ≤ c → c < 7 → h.2.2.1 c = (2, 0, 7) ∧ ∀ j, j < 7 → h.2.2.2 c j = .int (Int32.ofInt (cq_sv c j))) ∧ (∀ c j k, 40 ≤ c → c < 130 → j < (cq_fix c).2.2 → cq_ty c j = (3, 0, 0, k, 0, 0) → h.2.2.2 c j = .ref k)
section FSS
variable {h : am_H}
theorem fS.of (I : cq_Inv none h) : fS h := ⟨I.lo, I.fx, I.sv, fun c j k h1 h2 h3 e => by
  have q := I.ty c h1 (Nat.lt_of_lt_of_le h2 I.lo) (fun z => by cases z) j (by rw [I.fx c h1 h2]; exact h3)
  unfold cq_tyOf at q
  rw [show Nat.blt c 130 = true from Nat.ble_eq_true_of_le h2] at q
  have q : cq_ht h j (cq_ty c j) (h.2.2.2 c j) := q
  rw [e] at q
  exact q⟩
theorem fS.po (S : fS h) {c j : Nat} {v : Value} (h7 : Nat.ble 7 c = true) (n : Nat.beq (cq_ty c j).1 3 = false) : fS (am_put h c j v) := by
  have h7 := Nat.le_of_ble_eq_true h7
  refine ⟨S.1, S.2.1, fun c' a1 a2 => ⟨(S.2.2.1 c' a1 a2).1, fun j' hj => ax_put_o (Or.inl (by omega)) ((S.2.2.1 c' a1 a2).2 j' hj)⟩, fun c' j' k a1 a2 a3 e => ax_put_o ?_ (S.2.2.2 c' j' k a1 a2 a3 e)⟩
  by_cases e1 : c' = c
  · by_cases e2 : j' = j
    · subst e1 e2
      rw [e] at n
      cases n
    · exact Or.inr e2
  · exact Or.inl e1
theorem fS.pa (S : fS h) {c j : Nat} {v : Value} (q : (Nat.ble 7 c && cq_isA c && !Nat.beq (cq_ar c).1 3) = true) : fS (am_put h c j v) := by
  have b1 := (Bool.and_eq_true _ _ ▸ q)
  have b2 := (Bool.and_eq_true _ _ ▸ b1.1)
  refine S.po b2.1 ?_
  have b3 := b1.2
  unfold cq_ty
  rw [b2.2]
  cases z : (Nat.beq c 81 || Nat.beq c 83) && Nat.beq j 1 with
  | true => rfl
  | false =>
    show Nat.beq (cq_ar c).1 3 = false
    simpa using b3
theorem fS.pd (S : fS h) {c j : Nat} {v : Value} (q : 130 ≤ c) : fS (am_put h c j v) := ⟨S.1, S.2.1, fun c' a1 a2 => ⟨(S.2.2.1 c' a1 a2).1, fun j' hj => ax_put_o (Or.inl (by omega)) ((S.2.2.1 c' a1 a2).2 j' hj)⟩, fun c' j' k a1 a2 a3 e => ax_put_o (Or.inl (by omega)) (S.2.2.2 c' j' k a1 a2 a3 e)⟩
theorem fS.mk (S : fS h) {sh : am_Sh} {N : Nat} {dv : Nat → Value} : fS (am_mk h sh N dv) := by
  have lo := S.1
  refine ⟨Nat.le_succ_of_le lo, fun c a1 a2 => ?_, fun c a1 a2 => ⟨?_, fun j hj => ?_⟩, fun c j k a1 a2 a3 e => ?_⟩
  · show (if c = h.1 then sh else h.2.2.1 c) = _
    rw [if_neg (by omega)]
    exact S.2.1 c a1 a2
  · show (if c = h.1 then sh else h.2.2.1 c) = _
    rw [if_neg (by omega)]
    exact (S.2.2.1 c a1 a2).1
  · show (if c = h.1 then dv j else h.2.2.2 c j) = _
    rw [if_neg (by omega)]
    exact (S.2.2.1 c a1 a2).2 j hj
  · show (if c = h.1 then dv j else h.2.2.2 c j) = _
    rw [if_neg (by omega)]
    exact S.2.2.2 c j k a1 a2 a3 e
theorem fS.ob (S : fS h) {c k : Nat} (q : (Nat.ble 40 c && Nat.blt c 130 && Nat.beq (cq_fix c).1 0 && Nat.beq (cq_fix c).2.1 k) = true) : am_isO h c k = true := by
  have b1 := (Bool.and_eq_true _ _ ▸ q)
  have b2 := (Bool.and_eq_true _ _ ▸ b1.1)
  have b3 := (Bool.and_eq_true _ _ ▸ b2.1)
  have hc : c < 130 := Nat.le_of_ble_eq_true b3.2
  unfold am_isO
  rw [S.2.1 c (Nat.le_of_ble_eq_true b3.1) hc, show Nat.blt c h.1 = true from Nat.ble_eq_true_of_le (Nat.lt_of_lt_of_le hc S.1), b2.2, b1.2]
  rfl
theorem fS.rf (S : fS h) {c j k : Nat} (q : (Nat.ble 40 c && Nat.blt c 130 && Nat.blt j (cq_fix c).2.2) = true) (e : cq_ty c j = (3, 0, 0, k, 0, 0)) : h.2.2.2 c j = .ref k := by
  have b2 := (Bool.and_eq_true _ _ ▸ q)
  have b3 := (Bool.and_eq_true _ _ ▸ b2.1)
  exact S.2.2.2 c j k (Nat.le_of_ble_eq_true b3.1) (Nat.le_of_ble_eq_true b3.2) (Nat.le_of_ble_eq_true b2.2) e
theorem fO {h : am_H} {c j a k : Nat} {v : Value} (q : am_isO h a k = true) : am_isO (am_put h c j v) a k = true := q
theorem fx_rng {k n : Nat} (hk : k < n) (hn : Nat.ble n 100000 = true) : (Int32.ofInt (k : Int)).toInt = (k : Int) := by
  have := Nat.le_of_ble_eq_true hn
  exact fx_ti (by omega)
theorem fS.rd (S : fS h) {c tc n k : Nat} {e : Int} {ok : Nat → Bool} {v : Value} (q : (Nat.ble 40 c && Nat.blt c 130) = true) (fx : cq_fix c = (1, tc, n)) (o : ok tc = true) (hn : Nat.ble n 100000 = true) (he : e = (k : Int)) (hk : k < n) (hv : h.2.2.2 c k = v) : am_rd h c (Int32.ofInt e) ok = some v := by
  subst he
  have b3 := (Bool.and_eq_true _ _ ▸ q)
  have hc : c < 130 := Nat.le_of_ble_eq_true b3.2
  have r := fx_rng hk hn
  rw [ax_rdv (n := n) (tc := tc) (kd := 1) (Nat.lt_of_lt_of_le hc S.1) (by rw [S.2.1 c (Nat.le_of_ble_eq_true b3.1) hc, fx]) rfl o (by omega) (by omega), r, Int.toNat_natCast, hv]
theorem fS.wr (S : fS h) {c tc n k : Nat} {e : Int} {v : Value} (q : (Nat.ble 40 c && Nat.blt c 130) = true) (fx : cq_fix c = (1, tc, n)) (hn : Nat.ble n 100000 = true) (he : e = (k : Int)) (hk : k < n) : am_wr h c (Int32.ofInt e) tc v = some (am_put h c k v) := by
  subst he
  have b3 := (Bool.and_eq_true _ _ ▸ q)
  have hc : c < 130 := Nat.le_of_ble_eq_true b3.2
  have r := fx_rng hk hn
  rw [ax_wrv (n := n) (tc := tc) (Nat.lt_of_lt_of_le hc S.1) (by rw [S.2.1 c (Nat.le_of_ble_eq_true b3.1) hc, fx]) (by omega) (by omega), r, Int.toNat_natCast]
theorem fS.rs (S : fS h) {c k : Nat} {e : Int} (q : (Nat.ble 1 c && Nat.blt c 7) = true) (he : e = (k : Int)) (hk : k < 7) : am_rd h c (Int32.ofInt e) (fun c => Nat.beq c 0) = some (iv (cq_sv c k)) := by
  subst he
  have b3 := (Bool.and_eq_true _ _ ▸ q)
  have h1 := Nat.le_of_ble_eq_true b3.1
  have h2 : c < 7 := Nat.le_of_ble_eq_true b3.2
  have lo := S.1
  have r : (Int32.ofInt (k : Int)).toInt = (k : Int) := fx_ti (by omega)
  rw [ax_rdv (n := 7) (tc := 0) (kd := 2) (by omega) (S.2.2.1 c h1 h2).1 rfl rfl (by omega) (by omega), r, Int.toNat_natCast, (S.2.2.1 c h1 h2).2 k hk]
theorem fS.sb (S : fS h) {c : Nat} (q : (Nat.ble 40 c && Nat.blt c 130) = true) (n : Nat.beq (cq_fix c).2.1 1 = false) : Nat.beq (h.2.2.1 c).2.1 1 = false := by
  have b3 := (Bool.and_eq_true _ _ ▸ q)
  have hc : c < 130 := Nat.le_of_ble_eq_true b3.2
  rw [S.2.1 c (Nat.le_of_ble_eq_true b3.1) hc]
  exact n
theorem fS.sb1 (S : fS h) {c : Nat} (q : (Nat.ble 40 c && Nat.blt c 130) = true) (n : Nat.beq (cq_fix c).2.1 1 = true) : Nat.beq (h.2.2.1 c).2.1 1 = true := by
  have b3 := (Bool.and_eq_true _ _ ▸ q)
  have hc : c < 130 := Nat.le_of_ble_eq_true b3.2
  rw [S.2.1 c (Nat.le_of_ble_eq_true b3.1) hc]
  exact n
theorem fS.al (S : fS h) {c tc n : Nat} (q : (Nat.ble 40 c && Nat.blt c 130) = true) (fx : cq_fix c = (1, tc, n)) : am_len h c = some n := by
  have b3 := (Bool.and_eq_true _ _ ▸ q)
  have hc : c < 130 := Nat.le_of_ble_eq_true b3.2
  unfold am_len
  rw [S.2.1 c (Nat.le_of_ble_eq_true b3.1) hc, fx, show Nat.blt c h.1 = true from Nat.ble_eq_true_of_le (Nat.lt_of_lt_of_le hc S.1)]
  rfl
theorem fx_alen {d y pc p' i n : Nat} {ls r : List Value} {x : Option Value × am_H} {l a b w : Nat} {t : Int} (hc : am_at y pc (.arraylength, l, t, a, b, w)) (hp : pc + 1 = p') (N : am_len h i = some n) (q : am_ev d y p' ls (iv (n : Int) :: r) h x) : am_ev d y pc ls (.ref i :: r) h x := by
  refine ax_len hc hp N ?_
  rw [← Int32.ofInt_eq_ofNat]
  exact q
end FSS
theorem ax_callT {d y pc a z : Nat} {ls as rr st : List Value} {h h2 : am_H} {e : am_E} (hc : am_at y pc e) (hi : am_isC e.1) (hz : e.2.2.2.1 = z) (nz : (Nat.blt 0 z && Nat.blt z 264 && !Nat.beq z 10 && !Nat.beq z 57) = true) (hst : st = as.reverse ++ rr) (hlen : as.length = (am_in z).2.1) (hcs : Nat.ble (am_cs rr) 8 = true) (hw : Nat.ble (am_wid as).length (am_in z).2.2.1 = true) (hrcv : am_rcv z as h = true) (q1 : am_ev d z 0 (am_ent as (am_in z).2.2.1) [] h (some (.retAddr (a + 1)), h2)) (hk : (am_in z).2.2.2 = 0) (hy : Nat.blt 0 y = true) (ha : am_isO h2 a 12 = true) (hh : am_ctc (am_hh y) pc = none) : am_ev (d + 1) y pc ls st h (some (.retAddr (a + 1)), h2) := by
  subst hz
  have n1 := (Bool.and_eq_true _ _ ▸ nz)
  have n2 := (Bool.and_eq_true _ _ ▸ n1.1)
  have n3 := (Bool.and_eq_true _ _ ▸ n2.1)
  refine am_ev.callT hc hi ⟨Nat.le_of_ble_eq_true n3.1, Nat.le_of_ble_eq_true n3.2, fun z => ?_, fun z => ?_⟩ hst hlen (Nat.le_of_ble_eq_true hcs) hrcv (Nat.le_of_ble_eq_true hw) q1 hk (Nat.le_of_ble_eq_true hy) ha hh
  · have := n2.2
    rw [z] at this
    cases this
  · have := n1.2
    rw [z] at this
    cases this
theorem ax_callC {d y pc a z p' : Nat} {ls as rr st : List Value} {h h2 : am_H} {x : Option Value × am_H} {e : am_E} (hc : am_at y pc e) (hi : am_isC e.1) (hz : e.2.2.2.1 = z) (nz : (Nat.blt 0 z && Nat.blt z 264 && !Nat.beq z 10 && !Nat.beq z 57) = true) (hst : st = as.reverse ++ rr) (hlen : as.length = (am_in z).2.1) (hcs : Nat.ble (am_cs rr) 8 = true) (hw : Nat.ble (am_wid as).length (am_in z).2.2.1 = true) (hrcv : am_rcv z as h = true) (q1 : am_ev d z 0 (am_ent as (am_in z).2.2.1) [] h (some (.retAddr (a + 1)), h2)) (hk : (am_in z).2.2.2 = 0) (hy : Nat.blt 0 y = true) (ha : am_isO h2 a 12 = true) (hh : am_ctc (am_hh y) pc = some p') (q2 : am_ev (d + 1) y p' ls [.ref a] h2 x) : am_ev (d + 1) y pc ls st h x := by
  subst hz
  have n1 := (Bool.and_eq_true _ _ ▸ nz)
  have n2 := (Bool.and_eq_true _ _ ▸ n1.1)
  have n3 := (Bool.and_eq_true _ _ ▸ n2.1)
  refine am_ev.callC hc hi ⟨Nat.le_of_ble_eq_true n3.1, Nat.le_of_ble_eq_true n3.2, fun z => ?_, fun z => ?_⟩ hst hlen (Nat.le_of_ble_eq_true hcs) hrcv (Nat.le_of_ble_eq_true hw) q1 hk (Nat.le_of_ble_eq_true hy) ha hh q2
  · have := n2.2
    rw [z] at this
    cases this
  · have := n1.2
    rw [z] at this
    cases this
theorem b_88 (x : Int8) : x.toInt32.toInt8.toInt32 = x.toInt32 := by rw [Int8.toInt8_toInt32]
theorem ax_bas1 {d y pc p' i l a b w : Nat} {t : Int} {ls r : List Value} {h h' : am_H} {x : Option Value × am_H} {j u : Int32} (hc : am_at y pc (.bastore, l, t, a, b, w)) (hp : pc + 1 = p') (W : am_wr h i j 1 (.int u) = some h') (s : Nat.beq (h.2.2.1 i).2.1 1 = true) (hu : u.toInt8.toInt32 = u) (q : am_ev d y p' ls r h' x) : am_ev d y pc ls (.int u :: .int j :: .ref i :: r) h x := by
  subst hp
  refine am_ev.step hc ?_ q
  dsimp only [am_st]
  rw [s, hu]
  show (match am_wr h i j 1 (.int u) with
    | some h' => some (pc + 1, ls, r, h')
    | none => none) = _
  rw [W]
theorem ax_bas2 {d y pc p' i l a b w : Nat} {t : Int} {ls r : List Value} {h h' : am_H} {x : Option Value × am_H} {j u : Int32} (hc : am_at y pc (.bastore, l, t, a, b, w)) (hp : pc + 1 = p') (W : am_wr h i j 2 (.int u) = some h') (s : Nat.beq (h.2.2.1 i).2.1 1 = false) (hu : u &&& 1 = u) (q : am_ev d y p' ls r h' x) : am_ev d y pc ls (.int u :: .int j :: .ref i :: r) h x := by
  subst hp
  refine am_ev.step hc ?_ q
  dsimp only [am_st]
  rw [s, hu]
  show (match am_wr h i j 2 (.int u) with
    | some h' => some (pc + 1, ls, r, h')
    | none => none) = _
  rw [W]
theorem fx_heq {h g : am_H} (h1 : h.1 = g.1) (h2 : h.2.1 = g.2.1) (h3 : h.2.2.1 = g.2.2.1) (h4 : ∀ c j, h.2.2.2 c j = g.2.2.2 c j) : h = g := Prod.ext h1 (Prod.ext h2 (Prod.ext h3 (funext fun c => funext fun j => h4 c j)))
def fx_cpl (h : am_H) (a b : Nat) : Nat → am_H
  | 0 => h
  | n + 1 => am_put (fx_cpl h a b n) b n (h.2.2.2 a n)
theorem fx_cpl_v {h : am_H} {a b : Nat} : ∀ (n c j : Nat), (fx_cpl h a b n).2.2.2 c j = if c = b ∧ j < n then h.2.2.2 a j else h.2.2.2 c j
  | 0, c, j => by
    rw [if_neg (by omega)]
    rfl
  | n + 1, c, j => by
    show (if c = b then (if j = n then h.2.2.2 a n else (fx_cpl h a b n).2.2.2 c j) else (fx_cpl h a b n).2.2.2 c j) = _
    rw [fx_cpl_v n c j]
    by_cases e1 : c = b
    · by_cases e2 : j = n
      · rw [if_pos e1, if_pos e2, if_pos ⟨e1, by omega⟩, e2]
      · rw [if_pos e1, if_neg e2]
        by_cases e3 : j < n
        · rw [if_pos ⟨e1, e3⟩, if_pos ⟨e1, by omega⟩]
        · rw [if_neg (fun z => e3 z.2), if_neg (fun z => by omega)]
    · rw [if_neg e1, if_neg (fun z => e1 z.1), if_neg (fun z => e1 z.1)]
theorem fx_cpl_s {h : am_H} {a b : Nat} : ∀ n, (fx_cpl h a b n).1 = h.1 ∧ (fx_cpl h a b n).2.1 = h.2.1 ∧ (fx_cpl h a b n).2.2.1 = h.2.2.1
  | 0 => ⟨rfl, rfl, rfl⟩
  | n + 1 => fx_cpl_s n
def fx_cpv (h : am_H) (b : Nat) (V : Nat → Value) : Nat → am_H
  | 0 => h
  | n + 1 => am_put (fx_cpv h b V n) b n (V n)
theorem fx_cpe {h : am_H} {a b : Nat} {V : Nat → Value} : ∀ n, (∀ i, i < n → h.2.2.2 a i = V i) → fx_cpl h a b n = fx_cpv h b V n
  | 0, _ => rfl
  | n + 1, q => by
    show am_put (fx_cpl h a b n) b n (h.2.2.2 a n) = am_put (fx_cpv h b V n) b n (V n)
    rw [fx_cpe n (fun i hi => q i (by omega)), q n (by omega)]
/-- a copy between arrays of ints, from place 0 to place 0 -/
theorem fx_cp {h : am_H} {a b n ka na nb : Nat} (la : a < h.1) (lb : b < h.1) (sa : h.2.2.1 a = (ka, 0, na)) (hka : (Nat.beq ka 1 || Nat.beq ka 2) = true) (sb : h.2.2.1 b = (1, 0, nb)) (n1 : n ≤ na) (n2 : n ≤ nb) (hn : n ≤ 1000) (vi : ∀ i, i < n → ∃ x : Int32, h.2.2.2 a i = .int x) : am_cp h a (Int32.ofInt 0) b (Int32.ofInt 0) (Int32.ofInt (n : Int)) = some (fx_cpl h a b n) := by
  have e0 : (Int32.ofInt 0).toNatClampNeg = 0 := by decide
  have en : (Int32.ofInt (n : Int)).toInt = (n : Int) := fx_ti (by omega)
  have en2 : (Int32.ofInt (n : Int)).toNatClampNeg = n := by
    show (Int32.ofInt (n : Int)).toInt.toNat = n
    rw [en, Int.toNat_natCast]
  unfold am_cp
  rw [sa, sb, show Nat.blt a h.1 = true from Nat.ble_eq_true_of_le la, show Nat.blt b h.1 = true from Nat.ble_eq_true_of_le lb]
  dsimp only
  rw [hka, e0, en2]
  have c1 : ¬ (Int32.ofInt 0 < 0 ∨ Int32.ofInt 0 < 0 ∨ Int32.ofInt (n : Int) < 0 ∨ na < 0 + n ∨ nb < 0 + n) := by
    rintro (z | z | z | z | z)
    · exact absurd z (by decide)
    · exact absurd z (by decide)
    · have z := Int32.lt_iff_toInt_lt.1 z
      rw [en, show (0 : Int32).toInt = 0 by decide] at z
      omega
    · omega
    · omega
  have c2 : (List.range n).all (fun i => am_isI (h.2.2.2 a (0 + i))) = true := List.all_eq_true.2 fun i hi => by
    obtain ⟨x, hx⟩ := vi i (List.mem_range.1 hi)
    rw [Nat.zero_add, hx]
    rfl
  rw [if_neg c1, c2]
  show some _ = some _
  congr 1
  obtain ⟨q1, q2, q3⟩ := fx_cpl_s (h := h) (a := a) (b := b) n
  refine fx_heq q1.symm q2.symm q3.symm fun c j => ?_
  rw [fx_cpl_v]
  show (if c = b then (if 0 ≤ j ∧ j < 0 + n then h.2.2.2 a (0 + (j - 0)) else h.2.2.2 b j) else h.2.2.2 c j) = _
  by_cases e1 : c = b
  · by_cases e2 : j < n
    · rw [if_pos e1, if_pos ⟨Nat.zero_le _, by omega⟩, if_pos ⟨e1, e2⟩, Nat.sub_zero, Nat.zero_add]
    · rw [if_pos e1, if_neg (fun z => e2 (by omega)), if_neg (fun z => e2 z.2), e1]
  · rw [if_neg e1, if_neg (fun z => e1 z.1)]
theorem fx_cpy {d y pc p' : Nat} {ls r : List Value} {x : Option Value × am_H} {e : am_E} {h : am_H} {a b n ka na nb : Nat} {V : Nat → Int} (hc : am_at y pc e) (hi : am_isC e.1) (hz : e.2.2.2.1 = 1001) (hcs : Nat.ble (am_cs r) 8 = true) (hp : pc + 3 = p') (la : a < h.1) (lb : b < h.1) (sa : h.2.2.1 a = (ka, 0, na)) (hka : (Nat.beq ka 1 || Nat.beq ka 2) = true) (sb : h.2.2.1 b = (1, 0, nb)) (hn : (Nat.ble n na && Nat.ble n nb && Nat.ble n 1000) = true) (vi : ∀ i, i < n → h.2.2.2 a i = iv (V i)) (q : am_ev (d + 1) y p' ls r (fx_cpv h b (fun i => iv (V i)) n) x) : am_ev (d + 1) y pc ls (iv (n : Int) :: iv 0 :: .ref b :: iv 0 :: .ref a :: r) h x := by
  subst hp
  have b1 := (Bool.and_eq_true _ _ ▸ hn)
  have b2 := (Bool.and_eq_true _ _ ▸ b1.1)
  refine am_ev.copy hc hi hz (Nat.le_of_ble_eq_true hcs) (fx_cp la lb sa hka sb (Nat.le_of_ble_eq_true b2.1) (Nat.le_of_ble_eq_true b2.2) (Nat.le_of_ble_eq_true b1.2) fun i hi => ⟨_, vi i hi⟩) ?_
  rw [fx_cpe n vi]
  exact q
theorem fx_cpy7 {d y pc p' : Nat} {ls r : List Value} {x : Option Value × am_H} {e : am_E} {h : am_H} {a b ka na nb : Nat} (V : Nat → Int) (hc : am_at y pc e) (hi : am_isC e.1) (hz : e.2.2.2.1 = 1001) (hcs : Nat.ble (am_cs r) 8 = true) (hp : pc + 3 = p') (la : a < h.1) (lb : b < h.1) (sa : h.2.2.1 a = (ka, 0, na)) (hka : (Nat.beq ka 1 || Nat.beq ka 2) = true) (sb : h.2.2.1 b = (1, 0, nb)) (hn : (Nat.ble 7 na && Nat.ble 7 nb && Nat.ble 7 1000) = true) (vi : ∀ i, i < 7 → h.2.2.2 a i = iv (V i)) (q : am_ev (d + 1) y p' ls r (am_put (am_put (am_put (am_put (am_put (am_put (am_put h b 0 (iv (V 0))) b 1 (iv (V 1))) b 2 (iv (V 2))) b 3 (iv (V 3))) b 4 (iv (V 4))) b 5 (iv (V 5))) b 6 (iv (V 6))) x) : am_ev (d + 1) y pc ls (iv 7 :: iv 0 :: .ref b :: iv 0 :: .ref a :: r) h x := fx_cpy (n := 7) (V := V) hc hi hz hcs hp la lb sa hka sb hn vi q
theorem fx_cpy6 {d y pc p' : Nat} {ls r : List Value} {x : Option Value × am_H} {e : am_E} {h : am_H} {a b ka na nb : Nat} (V : Nat → Int) (hc : am_at y pc e) (hi : am_isC e.1) (hz : e.2.2.2.1 = 1001) (hcs : Nat.ble (am_cs r) 8 = true) (hp : pc + 3 = p') (la : a < h.1) (lb : b < h.1) (sa : h.2.2.1 a = (ka, 0, na)) (hka : (Nat.beq ka 1 || Nat.beq ka 2) = true) (sb : h.2.2.1 b = (1, 0, nb)) (hn : (Nat.ble 6 na && Nat.ble 6 nb && Nat.ble 6 1000) = true) (vi : ∀ i, i < 6 → h.2.2.2 a i = iv (V i)) (q : am_ev (d + 1) y p' ls r (am_put (am_put (am_put (am_put (am_put (am_put h b 0 (iv (V 0))) b 1 (iv (V 1))) b 2 (iv (V 2))) b 3 (iv (V 3))) b 4 (iv (V 4))) b 5 (iv (V 5))) x) : am_ev (d + 1) y pc ls (iv 6 :: iv 0 :: .ref b :: iv 0 :: .ref a :: r) h x := fx_cpy (n := 6) (V := V) hc hi hz hcs hp la lb sa hka sb hn vi q
theorem fS.lt {h : am_H} (S : fS h) {c : Nat} (q : Nat.blt c 130 = true) : c < h.1 := Nat.lt_of_lt_of_le (Nat.le_of_ble_eq_true q) S.1
theorem fS.sh {h : am_H} (S : fS h) {c : Nat} {s : am_Sh} (q : (Nat.ble 40 c && Nat.blt c 130) = true) (e : cq_fix c = s) : h.2.2.1 c = s := by
  have b3 := (Bool.and_eq_true _ _ ▸ q)
  rw [S.2.1 c (Nat.le_of_ble_eq_true b3.1) (Nat.le_of_ble_eq_true b3.2), e]
theorem fS.ss {h : am_H} (S : fS h) {c : Nat} (q : (Nat.ble 1 c && Nat.blt c 7) = true) : h.2.2.1 c = (2, 0, 7) := by
  have b3 := (Bool.and_eq_true _ _ ▸ q)
  exact (S.2.2.1 c (Nat.le_of_ble_eq_true b3.1) (Nat.le_of_ble_eq_true b3.2)).1
theorem fS.sv {h : am_H} (S : fS h) {c : Nat} (q : (Nat.ble 1 c && Nat.blt c 7) = true) (i : Nat) (hi : i < 7) : h.2.2.2 c i = iv (cq_sv c i) := by
  have b3 := (Bool.and_eq_true _ _ ▸ q)
  exact (S.2.2.1 c (Nat.le_of_ble_eq_true b3.1) (Nat.le_of_ble_eq_true b3.2)).2 i hi
theorem fx_pp {h : am_H} {c j : Nat} {v u : Value} : am_put (am_put h c j v) c j u = am_put h c j u := fx_heq rfl rfl rfl fun a b => by
  show (if a = c then (if b = j then u else (if a = c then (if b = j then v else h.2.2.2 a b) else h.2.2.2 a b)) else (if a = c then (if b = j then v else h.2.2.2 a b) else h.2.2.2 a b)) = (if a = c then (if b = j then u else h.2.2.2 a b) else h.2.2.2 a b)
  by_cases e1 : a = c
  · by_cases e2 : b = j
    · simp only [if_pos e1, if_pos e2]
    · simp only [if_pos e1, if_neg e2]
  · simp only [if_neg e1]
theorem fx_pc {h : am_H} {c j i : Nat} {v u : Value} (n : j ≠ i) : am_put (am_put h c j v) c i u = am_put (am_put h c i u) c j v := fx_heq rfl rfl rfl fun a b => by
  show (if a = c then (if b = i then u else (if a = c then (if b = j then v else h.2.2.2 a b) else h.2.2.2 a b)) else (if a = c then (if b = j then v else h.2.2.2 a b) else h.2.2.2 a b)) = (if a = c then (if b = j then v else (if a = c then (if b = i then u else h.2.2.2 a b) else h.2.2.2 a b)) else (if a = c then (if b = i then u else h.2.2.2 a b) else h.2.2.2 a b))
  by_cases e1 : a = c
  · by_cases e2 : b = j
    · have e3 : b ≠ i := fun z => n (by rw [← e2, z])
      simp only [if_pos e1, if_pos e2, if_neg e3]
    · simp only [if_pos e1, if_neg e2]
  · simp only [if_neg e1]
theorem fx_pi {h : am_H} {c j : Nat} {v : Value} (e : h.2.2.2 c j = v) : am_put h c j v = h := fx_heq rfl rfl rfl fun a b => by
  show (if a = c then (if b = j then v else h.2.2.2 a b) else h.2.2.2 a b) = h.2.2.2 a b
  by_cases e1 : a = c
  · by_cases e2 : b = j
    · rw [if_pos e1, if_pos e2, e1, e2, e]
    · rw [if_pos e1, if_neg e2]
  · rw [if_neg e1]

