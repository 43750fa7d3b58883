section
/-! CALLS AS THE LAW NEEDS THEM -/
theorem dh_blt {a : Nat} (q : 130 ≤ a) : Nat.blt a 130 = false := by
  cases z : Nat.blt a 130 with
  | false => rfl
  | true =>
    have : a < 130 := Nat.le_of_ble_eq_true z
    omega
section AXI
variable {h : am_H} (I : cq_Inv none h)
theorem ax_o (I : cq_Inv none h) {c k : Nat} (q : (Nat.ble 40 c && Nat.blt c 130 && Nat.beq (cq_fix c).1 0 && Nat.beq (cq_fix c).2.1 k) = true) : am_isO h c k = true := by
  have b1 := (Bool.and_eq_true _ _ ▸ q)
  have b2 := (Bool.and_eq_true _ _ ▸ b1.1)
  have b3 := (Bool.and_eq_true _ _ ▸ b2.1)
  have hc : c < 130 := Nat.le_of_ble_eq_true b3.2
  have fx := I.fx c (Nat.le_of_ble_eq_true b3.1) hc
  unfold am_isO
  rw [fx, show Nat.blt c h.1 = true from Nat.ble_eq_true_of_le (Nat.lt_of_lt_of_le hc I.lo), b2.2, b1.2]
  rfl
theorem ax_ty (I : cq_Inv none h) {c j : Nat} {t : cq_T} (q : (Nat.ble 40 c && Nat.blt c 130 && Nat.blt j (cq_fix c).2.2) = true) (e : cq_ty c j = t) : cq_ht h j t (h.2.2.2 c j) := by
  have b2 := (Bool.and_eq_true _ _ ▸ q)
  have b3 := (Bool.and_eq_true _ _ ▸ b2.1)
  have hc : c < 130 := Nat.le_of_ble_eq_true b3.2
  have h40 := Nat.le_of_ble_eq_true b3.1
  have fx := I.fx c h40 hc
  have k := I.ty c h40 (Nat.lt_of_lt_of_le hc I.lo) (fun z => by cases z) j (by rw [fx]; exact Nat.le_of_ble_eq_true b2.2)
  unfold cq_tyOf at k
  rw [show Nat.blt c 130 = true from Nat.ble_eq_true_of_le hc] at k
  rw [← e]
  exact k
theorem ax_in (I : cq_Inv none h) {c j : Nat} {l u : Int} (q : (Nat.ble 40 c && Nat.blt c 130 && Nat.blt j (cq_fix c).2.2) = true) (e : cq_ty c j = (1, l, u, 0, 0, 0)) : ∃ x : Int32, h.2.2.2 c j = .int x ∧ l ≤ x.toInt ∧ x.toInt ≤ u := ax_ty I q e
theorem ax_rf (I : cq_Inv none h) {c j k : Nat} (q : (Nat.ble 40 c && Nat.blt c 130 && Nat.blt j (cq_fix c).2.2) = true) (e : cq_ty c j = (3, 0, 0, k, 0, 0)) : h.2.2.2 c j = .ref k := ax_ty I q e
theorem ax_ar (I : cq_Inv none h) {c tc n : Nat} (q : (Nat.ble 40 c && Nat.blt c 130) = true) (e : cq_fix c = (1, tc, n)) : c < h.1 ∧ h.2.2.1 c = (1, tc, n) := by
  have b3 := (Bool.and_eq_true _ _ ▸ q)
  have hc : c < 130 := Nat.le_of_ble_eq_true b3.2
  exact ⟨Nat.lt_of_lt_of_le hc I.lo, by rw [I.fx c (Nat.le_of_ble_eq_true b3.1) hc, e]⟩
theorem ax_kO {a k : Nat} (q : cq_kOk h a (0, k, 0)) : am_isO h a k = true := by
  obtain ⟨q1, q2, q3⟩ := q
  unfold am_isO
  rw [q3, show Nat.blt a h.1 = true from Nat.ble_eq_true_of_le q2]
  dsimp only
  rw [Nat.beq_refl, Nat.beq_refl]
  rfl
/-- a field of an object that was made -/
theorem ax_fd (I : cq_Inv none h) {a k j : Nat} {t : cq_T} (q : cq_kOk h a (0, k, 0)) (hj : j < am_N k) (e : cq_cl k j = t) : cq_ht h j t (h.2.2.2 a j) := by
  obtain ⟨q1, q2, q3⟩ := q
  have w := I.ty a (by omega) q2 (fun z => by cases z) j (by rw [q3]; exact hj)
  unfold cq_tyOf at w
  rw [dh_blt q1, q3] at w
  rw [← e]
  exact w
end AXI
theorem ax_1 {c : Int32} (h1 : c.toInt < 2147483647) : (c + Int32.ofInt 1).toInt = c.toInt + 1 := by
  have := c.le_toInt
  rw [Int32.toInt_add, show (Int32.ofInt 1).toInt = 1 by decide, Int.bmod_eq_of_le (by omega) (by omega)]
def ax_m (n : Int) : Value := .int (Int8.ofInt n).toInt32
theorem sp_ap0 {y k : Nat} {c : cq_Ct} (ok : cq_CT y c) (e1 : c.2.1 = [(5, (0, []), k)]) (e2 : c.2.2.1 = cq_mk 0 ([], []) [] [] [] [] [] [] none 0 0) {A B : Nat} (e3 : (c.2.2.2.2.all fun x => !x.1 && x.2.2.U.isNone && Nat.ble x.2.2.ac A && Nat.ble x.2.2.al B) = true) {h : am_H} (I : cq_Inv none h) {d : Nat} (hd : c.1 ≤ d) : ∃ r h', am_ev d y 0 (am_ent [.ref k] (am_in y).2.2.1) [] h (r, h') ∧ am_isT r = none ∧ cq_Inv none h' ∧ cq_Fr c.2.2.2.1 h h' ∧ h'.1 ≤ h.1 + A ∧ h'.2.1 ≤ h.2.1 + B := by
  let ρ : Nat → Int := fun _ => 0
  have gg : cq_gs ρ c.2.1 [.ref k] := by
    rw [e1]
    exact ⟨rfl, trivial⟩
  have M0 : cq_Md c.2.2.2.1 h ρ c.2.2.1 h := by
    rw [e2]
    exact cq_Md_p ⟨fun b hb => (by cases hb), fun _ z => (by cases z)⟩ (fun _ z => (by cases z)) (fun _ z => (by cases z)) I
  obtain ⟨r, h', ev, x, hx, ρ', a', Mx, hr⟩ := ok d h ρ _ hd M0 gg
  have b1 := (Bool.and_eq_true _ _ ▸ List.all_eq_true.1 e3 x hx)
  have b2 := (Bool.and_eq_true _ _ ▸ b1.1)
  have b3 := (Bool.and_eq_true _ _ ▸ b2.1)
  have IX := Mx.I
  rw [Option.isNone_iff_eq_none.1 b3.2] at IX
  refine ⟨r, h', ev, ?_, IX, Mx.F, Nat.le_trans Mx.A.1 (Nat.add_le_add_left (Nat.le_of_ble_eq_true b2.2) _), Nat.le_trans Mx.A.2 (Nat.add_le_add_left (Nat.le_of_ble_eq_true b1.2) _)⟩
  rcases hr with ⟨_, z, _⟩ | ⟨z, _⟩
  · exact z
  · have := b3.1
    rw [z] at this
    cases this
theorem sp_ap1 {y k : Nat} {c : cq_Ct} (ok : cq_CT y c) (e1 : c.2.1 = [(5, (0, []), k), (1, (0, [(0, 1)]), 0)]) (e2 : c.2.2.1 = cq_mk 1 ([(0, (-2147483648), 2147483647)], []) [] [] [] [] [] [] none 0 0) {A B : Nat} (e3 : (c.2.2.2.2.all fun x => !x.1 && x.2.2.U.isNone && Nat.ble x.2.2.ac A && Nat.ble x.2.2.al B) = true) {h : am_H} (I : cq_Inv none h) {d : Nat} (hd : c.1 ≤ d) (p0 : Int32) : ∃ r h', am_ev d y 0 (am_ent [.ref k, .int p0] (am_in y).2.2.1) [] h (r, h') ∧ am_isT r = none ∧ cq_Inv none h' ∧ cq_Fr c.2.2.2.1 h h' ∧ h'.1 ≤ h.1 + A ∧ h'.2.1 ≤ h.2.1 + B := by
  let ρ : Nat → Int := fun s => match s with
    | 0 => p0.toInt
    | _ => p0.toInt
  have gg : cq_gs ρ c.2.1 [.ref k, .int p0] := by
    rw [e1]
    exact ⟨rfl, ⟨p0, rfl, (cq_s_e ρ 0).symm⟩, trivial⟩
  have M0 : cq_Md c.2.2.2.1 h ρ c.2.2.1 h := by
    rw [e2]
    refine cq_Md_p ⟨fun b hb => ?_, fun _ z => (by cases z)⟩ (fun _ z => (by cases z)) (fun _ z => (by cases z)) I
    have full : ∀ v : Int32, -2147483648 ≤ v.toInt ∧ v.toInt ≤ 2147483647 := fun v => by
      have r1 := v.le_toInt
      have r2 := v.toInt_lt
      omega
    simp only [List.mem_cons, List.not_mem_nil, or_false] at hb
    rcases hb with rfl
    exact full p0
  obtain ⟨r, h', ev, x, hx, ρ', a', Mx, hr⟩ := ok d h ρ _ hd M0 gg
  have b1 := (Bool.and_eq_true _ _ ▸ List.all_eq_true.1 e3 x hx)
  have b2 := (Bool.and_eq_true _ _ ▸ b1.1)
  have b3 := (Bool.and_eq_true _ _ ▸ b2.1)
  have IX := Mx.I
  rw [Option.isNone_iff_eq_none.1 b3.2] at IX
  refine ⟨r, h', ev, ?_, IX, Mx.F, Nat.le_trans Mx.A.1 (Nat.add_le_add_left (Nat.le_of_ble_eq_true b2.2) _), Nat.le_trans Mx.A.2 (Nat.add_le_add_left (Nat.le_of_ble_eq_true b1.2) _)⟩
  rcases hr with ⟨_, z, _⟩ | ⟨z, _⟩
  · exact z
  · have := b3.1
    rw [z] at this
    cases this
theorem sp_ap2 {y k : Nat} {c : cq_Ct} (ok : cq_CT y c) (e1 : c.2.1 = [(5, (0, []), k), (1, (0, [(0, 1)]), 0), (1, (0, [(1, 1)]), 0)]) (e2 : c.2.2.1 = cq_mk 2 ([(0, (-2147483648), 2147483647), (1, (-2147483648), 2147483647)], []) [] [] [] [] [] [] none 0 0) {A B : Nat} (e3 : (c.2.2.2.2.all fun x => !x.1 && x.2.2.U.isNone && Nat.ble x.2.2.ac A && Nat.ble x.2.2.al B) = true) {h : am_H} (I : cq_Inv none h) {d : Nat} (hd : c.1 ≤ d) (p0 p1 : Int32) : ∃ r h', am_ev d y 0 (am_ent [.ref k, .int p0, .int p1] (am_in y).2.2.1) [] h (r, h') ∧ am_isT r = none ∧ cq_Inv none h' ∧ cq_Fr c.2.2.2.1 h h' ∧ h'.1 ≤ h.1 + A ∧ h'.2.1 ≤ h.2.1 + B := by
  let ρ : Nat → Int := fun s => match s with
    | 0 => p0.toInt
    | _ => p1.toInt
  have gg : cq_gs ρ c.2.1 [.ref k, .int p0, .int p1] := by
    rw [e1]
    exact ⟨rfl, ⟨p0, rfl, (cq_s_e ρ 0).symm⟩, ⟨p1, rfl, (cq_s_e ρ 1).symm⟩, trivial⟩
  have M0 : cq_Md c.2.2.2.1 h ρ c.2.2.1 h := by
    rw [e2]
    refine cq_Md_p ⟨fun b hb => ?_, fun _ z => (by cases z)⟩ (fun _ z => (by cases z)) (fun _ z => (by cases z)) I
    have full : ∀ v : Int32, -2147483648 ≤ v.toInt ∧ v.toInt ≤ 2147483647 := fun v => by
      have r1 := v.le_toInt
      have r2 := v.toInt_lt
      omega
    simp only [List.mem_cons, List.not_mem_nil, or_false] at hb
    rcases hb with rfl | rfl
    · exact full p0
    · exact full p1
  obtain ⟨r, h', ev, x, hx, ρ', a', Mx, hr⟩ := ok d h ρ _ hd M0 gg
  have b1 := (Bool.and_eq_true _ _ ▸ List.all_eq_true.1 e3 x hx)
  have b2 := (Bool.and_eq_true _ _ ▸ b1.1)
  have b3 := (Bool.and_eq_true _ _ ▸ b2.1)
  have IX := Mx.I
  rw [Option.isNone_iff_eq_none.1 b3.2] at IX
  refine ⟨r, h', ev, ?_, IX, Mx.F, Nat.le_trans Mx.A.1 (Nat.add_le_add_left (Nat.le_of_ble_eq_true b2.2) _), Nat.le_trans Mx.A.2 (Nat.add_le_add_left (Nat.le_of_ble_eq_true b1.2) _)⟩
  rcases hr with ⟨_, z, _⟩ | ⟨z, _⟩
  · exact z
  · have := b3.1
    rw [z] at this
    cases this
theorem sp_ap3 {y k : Nat} {c : cq_Ct} (ok : cq_CT y c) (e1 : c.2.1 = [(5, (0, []), k), (1, (0, [(0, 1)]), 0), (1, (0, [(1, 1)]), 0), (1, (0, [(2, 1)]), 0)]) (e2 : c.2.2.1 = cq_mk 3 ([(0, (-2147483648), 2147483647), (1, (-2147483648), 2147483647), (2, (-2147483648), 2147483647)], []) [] [] [] [] [] [] none 0 0) {A B : Nat} (e3 : (c.2.2.2.2.all fun x => !x.1 && x.2.2.U.isNone && Nat.ble x.2.2.ac A && Nat.ble x.2.2.al B) = true) {h : am_H} (I : cq_Inv none h) {d : Nat} (hd : c.1 ≤ d) (p0 p1 p2 : Int32) : ∃ r h', am_ev d y 0 (am_ent [.ref k, .int p0, .int p1, .int p2] (am_in y).2.2.1) [] h (r, h') ∧ am_isT r = none ∧ cq_Inv none h' ∧ cq_Fr c.2.2.2.1 h h' ∧ h'.1 ≤ h.1 + A ∧ h'.2.1 ≤ h.2.1 + B := by
  let ρ : Nat → Int := fun s => match s with
    | 0 => p0.toInt
    | 1 => p1.toInt
    | _ => p2.toInt
  have gg : cq_gs ρ c.2.1 [.ref k, .int p0, .int p1, .int p2] := by
    rw [e1]
    exact ⟨rfl, ⟨p0, rfl, (cq_s_e ρ 0).symm⟩, ⟨p1, rfl, (cq_s_e ρ 1).symm⟩, ⟨p2, rfl, (cq_s_e ρ 2).symm⟩, trivial⟩
  have M0 : cq_Md c.2.2.2.1 h ρ c.2.2.1 h := by
    rw [e2]
    refine cq_Md_p ⟨fun b hb => ?_, fun _ z => (by cases z)⟩ (fun _ z => (by cases z)) (fun _ z => (by cases z)) I
    have full : ∀ v : Int32, -2147483648 ≤ v.toInt ∧ v.toInt ≤ 2147483647 := fun v => by
      have r1 := v.le_toInt
      have r2 := v.toInt_lt
      omega
    simp only [List.mem_cons, List.not_mem_nil, or_false] at hb
    rcases hb with rfl | rfl | rfl
    · exact full p0
    · exact full p1
    · exact full p2
  obtain ⟨r, h', ev, x, hx, ρ', a', Mx, hr⟩ := ok d h ρ _ hd M0 gg
  have b1 := (Bool.and_eq_true _ _ ▸ List.all_eq_true.1 e3 x hx)
  have b2 := (Bool.and_eq_true _ _ ▸ b1.1)
  have b3 := (Bool.and_eq_true _ _ ▸ b2.1)
  have IX := Mx.I
  rw [Option.isNone_iff_eq_none.1 b3.2] at IX
  refine ⟨r, h', ev, ?_, IX, Mx.F, Nat.le_trans Mx.A.1 (Nat.add_le_add_left (Nat.le_of_ble_eq_true b2.2) _), Nat.le_trans Mx.A.2 (Nat.add_le_add_left (Nat.le_of_ble_eq_true b1.2) _)⟩
  rcases hr with ⟨_, z, _⟩ | ⟨z, _⟩
  · exact z
  · have := b3.1
    rw [z] at this
    cases this
theorem sp_ap4 {y k : Nat} {c : cq_Ct} (ok : cq_CT y c) (e1 : c.2.1 = [(5, (0, []), k), (1, (0, [(0, 1)]), 0), (1, (0, [(1, 1)]), 0), (1, (0, [(2, 1)]), 0), (1, (0, [(3, 1)]), 0)]) (e2 : c.2.2.1 = cq_mk 4 ([(0, (-2147483648), 2147483647), (1, (-2147483648), 2147483647), (2, (-2147483648), 2147483647), (3, (-2147483648), 2147483647)], []) [] [] [] [] [] [] none 0 0) {A B : Nat} (e3 : (c.2.2.2.2.all fun x => !x.1 && x.2.2.U.isNone && Nat.ble x.2.2.ac A && Nat.ble x.2.2.al B) = true) {h : am_H} (I : cq_Inv none h) {d : Nat} (hd : c.1 ≤ d) (p0 p1 p2 p3 : Int32) : ∃ r h', am_ev d y 0 (am_ent [.ref k, .int p0, .int p1, .int p2, .int p3] (am_in y).2.2.1) [] h (r, h') ∧ am_isT r = none ∧ cq_Inv none h' ∧ cq_Fr c.2.2.2.1 h h' ∧ h'.1 ≤ h.1 + A ∧ h'.2.1 ≤ h.2.1 + B := by
  let ρ : Nat → Int := fun s => match s with
    | 0 => p0.toInt
    | 1 => p1.toInt
    | 2 => p2.toInt
    | _ => p3.toInt
  have gg : cq_gs ρ c.2.1 [.ref k, .int p0, .int p1, .int p2, .int p3] := by
    rw [e1]
    exact ⟨rfl, ⟨p0, rfl, (cq_s_e ρ 0).symm⟩, ⟨p1, rfl, (cq_s_e ρ 1).symm⟩, ⟨p2, rfl, (cq_s_e ρ 2).symm⟩, ⟨p3, rfl, (cq_s_e ρ 3).symm⟩, trivial⟩
  have M0 : cq_Md c.2.2.2.1 h ρ c.2.2.1 h := by
    rw [e2]
    refine cq_Md_p ⟨fun b hb => ?_, fun _ z => (by cases z)⟩ (fun _ z => (by cases z)) (fun _ z => (by cases z)) I
    have full : ∀ v : Int32, -2147483648 ≤ v.toInt ∧ v.toInt ≤ 2147483647 := fun v => by
      have r1 := v.le_toInt
      have r2 := v.toInt_lt
      omega
    simp only [List.mem_cons, List.not_mem_nil, or_false] at hb
    rcases hb with rfl | rfl | rfl | rfl
    · exact full p0
    · exact full p1
    · exact full p2
    · exact full p3
  obtain ⟨r, h', ev, x, hx, ρ', a', Mx, hr⟩ := ok d h ρ _ hd M0 gg
  have b1 := (Bool.and_eq_true _ _ ▸ List.all_eq_true.1 e3 x hx)
  have b2 := (Bool.and_eq_true _ _ ▸ b1.1)
  have b3 := (Bool.and_eq_true _ _ ▸ b2.1)
  have IX := Mx.I
  rw [Option.isNone_iff_eq_none.1 b3.2] at IX
  refine ⟨r, h', ev, ?_, IX, Mx.F, Nat.le_trans Mx.A.1 (Nat.add_le_add_left (Nat.le_of_ble_eq_true b2.2) _), Nat.le_trans Mx.A.2 (Nat.add_le_add_left (Nat.le_of_ble_eq_true b1.2) _)⟩
  rcases hr with ⟨_, z, _⟩ | ⟨z, _⟩
  · exact z
  · have := b3.1
    rw [z] at this
    cases this
theorem sp_ap5 {y k : Nat} {c : cq_Ct} (ok : cq_CT y c) (e1 : c.2.1 = [(5, (0, []), k), (1, (0, [(0, 1)]), 0), (1, (0, [(1, 1)]), 0), (1, (0, [(2, 1)]), 0), (1, (0, [(3, 1)]), 0), (1, (0, [(4, 1)]), 0)]) (e2 : c.2.2.1 = cq_mk 5 ([(0, (-2147483648), 2147483647), (1, (-2147483648), 2147483647), (2, (-2147483648), 2147483647), (3, (-2147483648), 2147483647), (4, (-2147483648), 2147483647)], []) [] [] [] [] [] [] none 0 0) {A B : Nat} (e3 : (c.2.2.2.2.all fun x => !x.1 && x.2.2.U.isNone && Nat.ble x.2.2.ac A && Nat.ble x.2.2.al B) = true) {h : am_H} (I : cq_Inv none h) {d : Nat} (hd : c.1 ≤ d) (p0 p1 p2 p3 p4 : Int32) : ∃ r h', am_ev d y 0 (am_ent [.ref k, .int p0, .int p1, .int p2, .int p3, .int p4] (am_in y).2.2.1) [] h (r, h') ∧ am_isT r = none ∧ cq_Inv none h' ∧ cq_Fr c.2.2.2.1 h h' ∧ h'.1 ≤ h.1 + A ∧ h'.2.1 ≤ h.2.1 + B := by
  let ρ : Nat → Int := fun s => match s with
    | 0 => p0.toInt
    | 1 => p1.toInt
    | 2 => p2.toInt
    | 3 => p3.toInt
    | _ => p4.toInt
  have gg : cq_gs ρ c.2.1 [.ref k, .int p0, .int p1, .int p2, .int p3, .int p4] := by
    rw [e1]
    exact ⟨rfl, ⟨p0, rfl, (cq_s_e ρ 0).symm⟩, ⟨p1, rfl, (cq_s_e ρ 1).symm⟩, ⟨p2, rfl, (cq_s_e ρ 2).symm⟩, ⟨p3, rfl, (cq_s_e ρ 3).symm⟩, ⟨p4, rfl, (cq_s_e ρ 4).symm⟩, trivial⟩
  have M0 : cq_Md c.2.2.2.1 h ρ c.2.2.1 h := by
    rw [e2]
    refine cq_Md_p ⟨fun b hb => ?_, fun _ z => (by cases z)⟩ (fun _ z => (by cases z)) (fun _ z => (by cases z)) I
    have full : ∀ v : Int32, -2147483648 ≤ v.toInt ∧ v.toInt ≤ 2147483647 := fun v => by
      have r1 := v.le_toInt
      have r2 := v.toInt_lt
      omega
    simp only [List.mem_cons, List.not_mem_nil, or_false] at hb
    rcases hb with rfl | rfl | rfl | rfl | rfl
    · exact full p0
    · exact full p1
    · exact full p2
    · exact full p3
    · exact full p4
  obtain ⟨r, h', ev, x, hx, ρ', a', Mx, hr⟩ := ok d h ρ _ hd M0 gg
  have b1 := (Bool.and_eq_true _ _ ▸ List.all_eq_true.1 e3 x hx)
  have b2 := (Bool.and_eq_true _ _ ▸ b1.1)
  have b3 := (Bool.and_eq_true _ _ ▸ b2.1)
  have IX := Mx.I
  rw [Option.isNone_iff_eq_none.1 b3.2] at IX
  refine ⟨r, h', ev, ?_, IX, Mx.F, Nat.le_trans Mx.A.1 (Nat.add_le_add_left (Nat.le_of_ble_eq_true b2.2) _), Nat.le_trans Mx.A.2 (Nat.add_le_add_left (Nat.le_of_ble_eq_true b1.2) _)⟩
  rcases hr with ⟨_, z, _⟩ | ⟨z, _⟩
  · exact z
  · have := b3.1
    rw [z] at this
    cases this
/-- what may not be written stays -/
def lw_nF (m : cq_W) (c j : Nat) : Bool := m.all fun w => w.1 || !(Nat.beq w.2.1 c && (Nat.beq w.2.2.1 0 || Nat.beq w.2.2.1 (j + 1)))
def lw_nA (m : cq_W) (c : Nat) : Bool := m.all fun w => w.1 || !Nat.beq w.2.1 c
def lw_nO (m : cq_W) (k j : Nat) : Bool := m.all fun w => bif w.1 then !(Nat.beq w.2.1 0 && Nat.beq w.2.2.1 k && (Nat.beq w.2.2.2 0 || Nat.beq w.2.2.2 (j + 1))) else Nat.blt w.2.1 130
section FRX
variable {m : cq_W} {h h2 : am_H}
theorem lw_frF (F : cq_Fr m h h2) (lo : 130 ≤ h.1) {c j : Nat} (hc : c < 130) (q : lw_nF m c j = true) : h2.2.2.2 c j = h.2.2.2 c j := by
  refine F.vl c (Nat.lt_of_lt_of_le hc lo) j ?_
  unfold cq_inW
  rw [List.any_eq_false]
  intro w hw
  have z := List.all_eq_true.1 q w hw
  cases w1 : w.1 with
  | true =>
    rw [show Nat.ble 130 c = false by cases y : Nat.ble 130 c with
      | false => rfl
      | true => have := Nat.le_of_ble_eq_true y; omega]
    simp
  | false =>
    rw [w1] at z
    simp only [Bool.false_or, Bool.not_eq_true'] at z
    rw [z]
    simp
theorem lw_frA (F : cq_Fr m h h2) (lo : 130 ≤ h.1) {c : Nat} (hc : c < 130) (q : lw_nA m c = true) (j : Nat) : h2.2.2.2 c j = h.2.2.2 c j := by
  refine lw_frF F lo hc ?_
  unfold lw_nF
  rw [List.all_eq_true]
  intro w hw
  have z := List.all_eq_true.1 q w hw
  cases w1 : w.1 with
  | true => rfl
  | false =>
    rw [w1] at z
    simp only [Bool.false_or, Bool.not_eq_true'] at z
    rw [z]
    rfl
theorem lw_frO (F : cq_Fr m h h2) {s k j n : Nat} (h1 : 130 ≤ s) (h3 : s < h.1) (sh : h.2.2.1 s = (0, k, n)) (q : lw_nO m k j = true) : h2.2.2.2 s j = h.2.2.2 s j := by
  refine F.vl s h3 j ?_
  unfold cq_inW
  rw [List.any_eq_false]
  intro w hw
  have z := List.all_eq_true.1 q w hw
  cases w1 : w.1 with
  | true =>
    rw [w1] at z
    simp only [cond_true, Bool.not_eq_true'] at z
    rw [sh]
    dsimp only
    have : (Nat.ble 130 s && Nat.beq w.2.1 0 && Nat.beq w.2.2.1 k && (Nat.beq w.2.2.2 0 || Nat.beq w.2.2.2 (j + 1))) = false := by
      rw [Bool.and_assoc, Bool.and_assoc, ← Bool.and_assoc (Nat.beq w.2.1 0), z, Bool.and_false]
    rw [this]
    simp
  | false =>
    rw [w1] at z
    have hz : w.2.1 < 130 := Nat.le_of_ble_eq_true z
    rw [dh_bne (show w.2.1 ≠ s by omega)]
    simp
end FRX
/-- two places hold the same number -/
def tT (h : am_H) (q : Nat × Nat × Nat × Nat) : Prop := ∃ t : Int32, h.2.2.2 q.1 q.2.1 = .int t ∧ h.2.2.2 q.2.2.1 q.2.2.2 = .int t
section OPB
variable {h : am_H}
/-- a tie of numbers within bounds, as a natural number -/
theorem tT_nat (I : cq_Inv none h) (T : tT h (41, 1, 78, 2)) : ∃ L : Nat, L ≤ 1600 ∧ h.2.2.2 41 1 = iv L ∧ h.2.2.2 78 2 = iv L := by
  obtain ⟨t, t1, t2⟩ := T
  obtain ⟨y, ey, a, c⟩ := ax_in I (c := 41) (j := 1) (l := 0) (u := 1600) (by decide +kernel) (by decide +kernel)
  have t1 : h.2.2.2 41 1 = .int t := t1
  have t2 : h.2.2.2 78 2 = .int t := t2
  rw [t1] at ey
  cases ey
  have e : Value.int t = iv (t.toInt.toNat : Int) := by
    rw [fx_of t]
    exact congrArg iv (by omega)
  exact ⟨t.toInt.toNat, by omega, t1.trans e, t2.trans e⟩
theorem tT_of (I : cq_Inv none h) {c j c' j' : Nat} {l u : Int} (q : (Nat.ble 40 c && Nat.blt c 130 && Nat.blt j (cq_fix c).2.2) = true) (e : cq_ty c j = (1, l, u, 0, 0, 0)) (v : h.2.2.2 c j = h.2.2.2 c' j') : tT h (c, j, c', j') := by
  obtain ⟨y, ey, -⟩ := ax_in I q e
  exact ⟨y, ey, v ▸ ey⟩
theorem ct_nil {m : cq_W} : cq_Fr m h h := ⟨Nat.le_refl _, fun _ _ => rfl, fun _ _ _ _ => rfl⟩
end OPB
end
section
/-! THE CALLS OF THE TAPE AND THE RULES -/
/-- what holds between both sides of the tape's bytes and the rules -/
def rT (h : am_H) : Prop := (∀ j, j < 1600 → h.2.2.2 42 j = h.2.2.2 80 j) ∧ (∀ j, j < 7 → h.2.2.2 44 j = h.2.2.2 81 j) ∧ (∀ j, j < 6 → h.2.2.2 45 j = h.2.2.2 82 j)
def rT_m (m : cq_W) : Bool := lw_nA m 42 && lw_nA m 80 && lw_nA m 44 && lw_nA m 81 && lw_nA m 45 && lw_nA m 82
theorem rT_fr {h h2 : am_H} {m : cq_W} (I : cq_Inv none h) (F : cq_Fr m h h2) (q : rT_m m = true) (X : rT h) : rT h2 := by
  have b1 := (Bool.and_eq_true _ _ ▸ q)
  have b2 := (Bool.and_eq_true _ _ ▸ b1.1)
  have b3 := (Bool.and_eq_true _ _ ▸ b2.1)
  have b4 := (Bool.and_eq_true _ _ ▸ b3.1)
  have b5 := (Bool.and_eq_true _ _ ▸ b4.1)
  have lo := I.lo
  refine ⟨fun j hj => ?_, fun j hj => ?_, fun j hj => ?_⟩
  · rw [lw_frA F lo (by decide) b5.1 j, lw_frA F lo (by decide) b5.2 j]
    exact X.1 j hj
  · rw [lw_frA F lo (by decide) b4.2 j, lw_frA F lo (by decide) b3.2 j]
    exact X.2.1 j hj
  · rw [lw_frA F lo (by decide) b2.2 j, lw_frA F lo (by decide) b1.2 j]
    exact X.2.2 j hj
def rbV_m (m : cq_W) : Bool := lw_nA m 44 && lw_nA m 45
theorem rbV_fr {h h2 : am_H} {m : cq_W} (I : cq_Inv none h) (F : cq_Fr m h h2) (q : rbV_m m = true) (X : rbV h) : rbV h2 := by
  have b1 := (Bool.and_eq_true _ _ ▸ q)
  obtain ⟨V, Y, B, x1, x2⟩ := X
  exact ⟨V, Y, B, fun j hj => (lw_frA F I.lo (by decide) b1.1 j).trans (x1 j hj), fun j hj => (lw_frA F I.lo (by decide) b1.2 j).trans (x2 j hj)⟩
/-- the fault of the latest reading, on both sides -/
def rF (h : am_H) : Prop := h.2.2.2 41 3 = h.2.2.2 78 8 ∧ h.2.2.2 41 4 = h.2.2.2 78 9
def rF_m (m : cq_W) : Bool := lw_nF m 41 3 && lw_nF m 78 8 && lw_nF m 41 4 && lw_nF m 78 9
theorem rF_fr {h h2 : am_H} {m : cq_W} (I : cq_Inv none h) (F : cq_Fr m h h2) (q : rF_m m = true) (X : rF h) : rF h2 := by
  have b1 := (Bool.and_eq_true _ _ ▸ q)
  have b2 := (Bool.and_eq_true _ _ ▸ b1.1)
  have b3 := (Bool.and_eq_true _ _ ▸ b2.1)
  exact ⟨by rw [lw_frF F I.lo (by decide) b3.1, lw_frF F I.lo (by decide) b3.2]; exact X.1, by rw [lw_frF F I.lo (by decide) b2.2, lw_frF F I.lo (by decide) b1.2]; exact X.2⟩
/-- what a call done by hand leaves -/
def rO (h h1 h2 : am_H) (m1 m2 : cq_W) (Q : List (Nat × Nat × Nat × Nat)) : Prop := cq_Inv none h1 ∧ cq_Inv none h2 ∧ cq_Fr m1 h h1 ∧ cq_Fr m2 h1 h2 ∧ (∀ q ∈ Q, tT h2 q) ∧ rT h2 ∧ h2.1 ≤ h.1 + 12 ∧ h2.2.1 ≤ h.2.1 + 624
section OP0
variable {h : am_H} {d : Nat}
/-- the bytes of the tape -/
theorem tb_b (I : cq_Inv none h) : ∃ b : Nat → Int, tz_r b ∧ ∀ j, j < 1600 → h.2.2.2 42 j = iv (b j) := by
  refine ⟨fun j => if j < 1600 then cq_n h 42 j else 0, fun j => ?_, fun j hj => ?_⟩
  · by_cases hj : j < 1600
    · obtain ⟨x, ex, a, c⟩ := ax_in I (c := 42) (j := j) (l := -128) (u := 127) (by
        rw [show Nat.blt j (cq_fix 42).2.2 = true from Nat.ble_eq_true_of_le hj]
        decide +kernel) (by
        unfold cq_ty
        rw [show cq_isA 42 = true by decide +kernel, show ((Nat.beq 42 81 || Nat.beq 42 83) && Nat.beq j 1) = false from rfl]
        show cq_ar 42 = _
        decide +kernel)
      dsimp only
      rw [if_pos hj]
      unfold cq_n
      rw [ex]
      exact ⟨a, c⟩
    · dsimp only
      rw [if_neg hj]
      omega
  · obtain ⟨x, ex, a, c⟩ := ax_in I (c := 42) (j := j) (l := -128) (u := 127) (by
      rw [show Nat.blt j (cq_fix 42).2.2 = true from Nat.ble_eq_true_of_le hj]
      decide +kernel) (by
      unfold cq_ty
      rw [show cq_isA 42 = true by decide +kernel, show ((Nat.beq 42 81 || Nat.beq 42 83) && Nat.beq j 1) = false from rfl]
      show cq_ar 42 = _
      decide +kernel)
    dsimp only
    rw [if_pos hj]
    unfold cq_n
    rw [ex]
    exact fx_of x
theorem op_fee (I : cq_Inv none h) (X : rT h) (T : tT h (41, 1, 78, 2)) (p1 p2 p3 p4 p5 : Int32) : ∃ (a : Int32) (h1 h2 : am_H), am_ev (d + 8) 14 0 (am_ent [.ref 40, .int p1, .int p2, .int p3, .int p4, .int p5] (am_in 14).2.2.1) [] h (some (.int a), h1) ∧ am_ev (d + 8) 162 0 (am_ent [.ref 78, .int p1, .int p2, .int p3, .int p4, .int p5] (am_in 162).2.2.1) [] h1 (some (.int a), h2) ∧ rO h h1 h2 ct_14.2.2.2.1 ct_162.2.2.2.1 [(41, 1, 78, 2)] := by
  obtain ⟨L, hL, v1, v2⟩ := tT_nat I T
  have lo := I.lo
  obtain ⟨r, h1, ev1, T1, I1, F1, A1, B1⟩ := sp_ap5 (A := 0) (B := 0) ok_14 rfl rfl (by decide +kernel) I (d := d + 8) (by show 1 ≤ d + 8; omega) p1 p2 p3 p4 p5
  obtain ⟨r', h2, ev2, T2, I2, F2, A2, B2⟩ := sp_ap5 (A := 0) (B := 0) ok_162 rfl rfl (by decide +kernel) I1 (d := d + 8) (by show 1 ≤ d + 8; omega) p1 p2 p3 p4 p5
  have k2 : h1.2.2.2 78 2 = iv L := by rw [lw_frF F1 lo (by decide) (by decide +kernel), v2]
  have k80 := lw_frA F1 lo (c := 80) (by decide) (by decide +kernel)
  obtain ⟨a, H, G, e1, e2, e3, e4⟩ := fe_all (d := d + 7) (p1 := p1) (p2 := p2) (p3 := p3) (p4 := p4) (p5 := p5) (fS.of I) (fS.of I1) v1 k2 hL (fun j hj => by rw [k80 j]; exact X.1 j hj)
  have q1 := ax_det ev1 e1
  have q2 := ax_det ev2 e2
  obtain ⟨rfl, rfl⟩ := Prod.mk.inj q1
  obtain ⟨rfl, rfl⟩ := Prod.mk.inj q2
  have lo1 := I1.lo
  refine ⟨Int32.ofInt a, h1, h2, ev1, ev2, I1, I2, F1, F2, fun q hq => ?_, ⟨fun j hj => ?_, fun j hj => ?_, fun j hj => ?_⟩, by omega, by omega⟩
  · rw [List.mem_singleton.1 hq]
    exact tT_of I2 (c := 41) (j := 1) (l := 0) (u := 1600) (by decide +kernel) (by decide +kernel) (by rw [lw_frF F2 lo1 (c := 41) (j := 1) (by decide) (by decide +kernel), e3])
  · rw [lw_frA F2 lo1 (c := 42) (by decide) (by decide +kernel) j]
    exact e4 j hj
  · rw [lw_frA F2 lo1 (c := 44) (by decide) (by decide +kernel) j, lw_frA F1 lo (c := 44) (by decide) (by decide +kernel) j, lw_frA F2 lo1 (c := 81) (by decide) (by decide +kernel) j, lw_frA F1 lo (c := 81) (by decide) (by decide +kernel) j]
    exact X.2.1 j hj
  · rw [lw_frA F2 lo1 (c := 45) (by decide) (by decide +kernel) j, lw_frA F1 lo (c := 45) (by decide) (by decide +kernel) j, lw_frA F2 lo1 (c := 82) (by decide) (by decide +kernel) j, lw_frA F1 lo (c := 82) (by decide) (by decide +kernel) j]
    exact X.2.2 j hj
theorem op_rul (I : cq_Inv none h) (X : rT h) (XB : rbV h) (T : tT h (41, 1, 78, 2)) : ∃ (a : Int32) (h1 h2 : am_H), am_ev (d + 8) 18 0 (am_ent [.ref 40] (am_in 18).2.2.1) [] h (some (.int a), h1) ∧ am_ev (d + 8) 167 0 (am_ent [.ref 78] (am_in 167).2.2.1) [] h1 (some (.int a), h2) ∧ cq_Inv none h1 ∧ cq_Inv none h2 ∧ cq_Fr ct_18.2.2.2.1 h h1 ∧ cq_Fr ct_167.2.2.2.1 h1 h2 ∧ (∀ q ∈ [((41 : Nat), (1 : Nat), (78 : Nat), (2 : Nat))], tT h2 q) ∧ rT h2 ∧ rbV h2 ∧ rF h2 ∧ h2.1 ≤ h.1 + 12 ∧ h2.2.1 ≤ h.2.1 + 624 := by
  obtain ⟨L, hL, v1, v2⟩ := tT_nat I T
  obtain ⟨b, hb, hB⟩ := tb_b I
  have lo := I.lo
  obtain ⟨r, h1, ev1, T1, I1, F1, A1, B1⟩ := sp_ap0 (A := 0) (B := 0) ok_18 rfl rfl (by decide +kernel) I (d := d + 8) (by show 8 ≤ d + 8; omega)
  obtain ⟨r', h2, ev2, T2, I2, F2, A2, B2⟩ := sp_ap0 (A := 0) (B := 0) ok_167 rfl rfl (by decide +kernel) I1 (d := d + 8) (by show 8 ≤ d + 8; omega)
  have k2 : h1.2.2.2 78 2 = iv L := by rw [lw_frF F1 lo (by decide) (by decide +kernel), v2]
  have k80 := lw_frA F1 lo (c := 80) (by decide) (by decide +kernel)
  have k81 := lw_frA F1 lo (c := 81) (by decide) (by decide +kernel)
  have k82 := lw_frA F1 lo (c := 82) (by decide) (by decide +kernel)
  obtain ⟨w, hw, -⟩ := ax_in I1 (c := 78) (j := 7) (l := -2147483648) (u := 2147483647) (by decide +kernel) (by decide +kernel)
  obtain ⟨a, H, G, e1, e2, e3, e4, e5, e6, e7, e8⟩ := rw_all (d := d) (fS.of I) (fun i hi => hB i (by omega)) hb hL v1 (fS.of I1) (fun i hi => by rw [k80 i, ← X.1 i (by omega)]; exact hB i (by omega)) k2 (hw.trans (fx_of w)) (fun j hj => by rw [k81 j]; exact X.2.1 j hj) (fun j hj => by rw [k82 j]; exact X.2.2 j hj) XB
  have q1 := ax_det ev1 e1
  have q2 := ax_det ev2 e2
  obtain ⟨rfl, rfl⟩ := Prod.mk.inj q1
  obtain ⟨rfl, rfl⟩ := Prod.mk.inj q2
  have lo1 := I1.lo
  refine ⟨Int32.ofInt a, _, h2, ev1, ev2, I1, I2, F1, F2, fun q hq => ?_, ⟨fun j hj => ?_, fun j hj => ?_, fun j hj => ?_⟩, rbV_fr I1 F2 (by decide +kernel) ?_, ⟨?_, ?_⟩, by omega, by omega⟩
  · rw [List.mem_singleton.1 hq]
    refine tT_of I2 (c := 41) (j := 1) (l := 0) (u := 1600) (by decide +kernel) (by decide +kernel) ?_
    rw [lw_frF F2 lo1 (c := 41) (j := 1) (by decide) (by decide +kernel), e3]
    exact ax_put_s _ _ _
  · rw [lw_frA F2 lo1 (c := 42) (by decide) (by decide +kernel) j, lw_frA F1 lo (c := 42) (by decide) (by decide +kernel) j, lw_frA F2 lo1 (c := 80) (by decide) (by decide +kernel) j, k80 j]
    exact X.1 j hj
  · rw [lw_frA F2 lo1 (c := 44) (by decide) (by decide +kernel) j]
    exact Eq.trans (ax_put_o (Or.inl (by decide)) rfl) (e6 j hj)
  · rw [lw_frA F2 lo1 (c := 45) (by decide) (by decide +kernel) j]
    exact Eq.trans (ax_put_o (Or.inl (by decide)) rfl) (e7 j hj)
  · obtain ⟨V, Y, B, x1, x2⟩ := e8
    exact ⟨V, Y, B, fun j hj => Eq.trans (ax_put_o (Or.inl (by decide)) rfl) (x1 j hj), fun j hj => Eq.trans (ax_put_o (Or.inl (by decide)) rfl) (x2 j hj)⟩
  · rw [lw_frF F2 lo1 (c := 41) (j := 3) (by decide) (by decide +kernel)]
    exact Eq.trans (ax_put_o (Or.inr (by decide)) rfl) e4
  · rw [lw_frF F2 lo1 (c := 41) (j := 4) (by decide) (by decide +kernel)]
    exact Eq.trans (ax_put_o (Or.inr (by decide)) rfl) e5
theorem ru_int (I : cq_Inv none h) {c n j : Nat} (q : (Nat.ble 40 c && Nat.blt c 130 && cq_isA c && !Nat.beq c 81 && !Nat.beq c 83) = true) (f : cq_fix c = (1, 0, n)) (a : cq_ar c = (1, -2147483648, 2147483647, 0, 0, 0)) (hj : j < n) : ∃ v : Int32, h.2.2.2 c j = .int v := by
  have b1 := (Bool.and_eq_true _ _ ▸ q)
  have b2 := (Bool.and_eq_true _ _ ▸ b1.1)
  have b3 := (Bool.and_eq_true _ _ ▸ b2.1)
  obtain ⟨x, ex, -⟩ := ax_in I (c := c) (j := j) (l := -2147483648) (u := 2147483647) (by
    rw [f, show Nat.blt j (1, 0, n).2.2 = true from Nat.ble_eq_true_of_le hj, b3.1]
    rfl) (by
    have b4 := b1.2
    have b5 := b2.2
    unfold cq_ty
    rw [b3.2]
    simp only [Bool.not_eq_true'] at b4 b5
    rw [b4, b5]
    exact a)
  exact ⟨x, ex⟩
theorem op_rlv (I : cq_Inv none h) (X : rT h) (p1 : Int32) : ∃ (a : Int32) (h1 h2 : am_H), am_ev (d + 8) 35 0 (am_ent [.ref 40, .int p1] (am_in 35).2.2.1) [] h (some (.int a), h1) ∧ am_ev (d + 8) 184 0 (am_ent [.ref 78, .int p1] (am_in 184).2.2.1) [] h1 (some (.int a), h2) ∧ rO h h1 h2 ct_35.2.2.2.1 ct_184.2.2.2.1 [] := by
  obtain ⟨a, e1, e2⟩ := ru_all (d := d + 7) (fS.of I) (fun j hj => ru_int I (by decide +kernel) (by decide +kernel) (by decide +kernel) hj) (fun j hj => ru_int I (by decide +kernel) (by decide +kernel) (by decide +kernel) hj) X.2.1 X.2.2 p1
  exact ⟨a, h, h, e1, e2, I, I, ct_nil, ct_nil, fun q hq => (by cases hq), X, by omega, by omega⟩
end OP0
end
section
/-! CANDIDATE, on both sides -/
theorem ca_101 {h : am_H} {n p : Int32} {pm d : Nat} {ν : Nat → Int32} (O : am_isO h 40 11 = true) (v13 : h.2.2.2 40 13 = .int n) (v12 : h.2.2.2 40 12 = .ref 74) (A : 74 < h.1 ∧ h.2.2.1 74 = (1, 5, 14)) (n14 : n.toInt ≤ 14) (C : ∀ c : Nat, (c : Int) < n.toInt → ∃ s, h.2.2.2 74 c = .ref s ∧ am_isO h s 1 = true ∧ h.2.2.2 s 0 = .int (ν c)) : ∀ (k : Nat) (c : Int32), 0 ≤ c.toInt → c.toInt ≤ n.toInt → n.toInt - c.toInt ≤ k →
    ((∃ j : Nat, c.toInt ≤ j ∧ (j : Int) < n.toInt ∧ ν j = p) → am_ev d 101 15 [.ref 40, .int p, .ref pm, .int c] [] h (some (ax_m (-4)), h)) ∧ (∀ x, (∀ j : Nat, c.toInt ≤ j → (j : Int) < n.toInt → ν j ≠ p) → am_ev d 101 45 [.ref 40, .int p, .ref pm, .int n] [] h x → am_ev d 101 15 [.ref 40, .int p, .ref pm, .int c] [] h x) := by
  intro k
  induction k with
  | zero =>
    intro c c0 c1 ck
    have e : c = n := Int32.toInt_inj.1 (by omega)
    subst e
    have le : c ≤ c := Int32.le_iff_toInt_le.2 (Int.le_refl _)
    refine ⟨fun ⟨j, j1, j2, _⟩ => by omega, fun x _ q => ?_⟩
    refine am_ev.step (pc' := 16) rfl rfl ?_
    refine am_ev.step (pc' := 17) rfl rfl ?_
    refine ax_gf (p' := 20) rfl rfl O v13 ?_
    refine ax_c_ge_T (p' := 45) rfl rfl le ?_
    exact q
  | succ k ih =>
    intro c c0 c1 ck
    by_cases hc : n ≤ c
    · have hc' := Int32.le_iff_toInt_le.1 hc
      have e : c = n := Int32.toInt_inj.1 (by omega)
      subst e
      refine ⟨fun ⟨j, j1, j2, _⟩ => by omega, fun x _ q => ?_⟩
      refine am_ev.step (pc' := 16) rfl rfl ?_
      refine am_ev.step (pc' := 17) rfl rfl ?_
      refine ax_gf (p' := 20) rfl rfl O v13 ?_
      refine ax_c_ge_T (p' := 45) rfl rfl hc ?_
      exact q
    · have hc' : c.toInt < n.toInt := by
        have := mt Int32.le_iff_toInt_le.2 hc
        omega
      obtain ⟨s, a1, a2, a3⟩ := C c.toInt.toNat (by omega)
      have rd : am_rd h 74 c (fun c => Nat.ble 4 c && am_isA c) = some (.ref s) := by
        rw [ax_rdv A.1 A.2 (by decide) (by decide +kernel) c0 (by omega), a1]
      by_cases hp : ν c.toInt.toNat = p
      · refine ⟨fun _ => ?_, fun x hn q => absurd hp (hn c.toInt.toNat (by omega) (by omega))⟩
        refine am_ev.step (pc' := 16) rfl rfl ?_
        refine am_ev.step (pc' := 17) rfl rfl ?_
        refine ax_gf (p' := 20) rfl rfl O v13 ?_
        refine ax_c_ge_N (p' := 23) rfl rfl hc ?_
        refine am_ev.step (pc' := 24) rfl rfl ?_
        refine ax_gf (p' := 27) rfl rfl O v12 ?_
        refine am_ev.step (pc' := 28) rfl rfl ?_
        refine ax_aaload (p' := 29) rfl rfl rd ?_
        refine ax_gf (p' := 32) rfl rfl a2 a3 ?_
        refine am_ev.step (pc' := 33) rfl rfl ?_
        refine ax_c_ne_N (p' := 36) rfl rfl hp ?_
        refine am_ev.step (pc' := 38) rfl rfl ?_
        exact am_ev.reti rfl rfl rfl
      · have e1 := ax_1 (c := c) (by omega)
        obtain ⟨i1, i2⟩ := ih (c + Int32.ofInt 1) (by omega) (by omega) (by omega)
        have stp : ∀ x, am_ev d 101 15 [.ref 40, .int p, .ref pm, .int (c + Int32.ofInt 1)] [] h x → am_ev d 101 15 [.ref 40, .int p, .ref pm, .int c] [] h x := fun x q => by
          refine am_ev.step (pc' := 16) rfl rfl ?_
          refine am_ev.step (pc' := 17) rfl rfl ?_
          refine ax_gf (p' := 20) rfl rfl O v13 ?_
          refine ax_c_ge_N (p' := 23) rfl rfl hc ?_
          refine am_ev.step (pc' := 24) rfl rfl ?_
          refine ax_gf (p' := 27) rfl rfl O v12 ?_
          refine am_ev.step (pc' := 28) rfl rfl ?_
          refine ax_aaload (p' := 29) rfl rfl rd ?_
          refine ax_gf (p' := 32) rfl rfl a2 a3 ?_
          refine am_ev.step (pc' := 33) rfl rfl ?_
          refine ax_c_ne_T (p' := 39) rfl rfl hp ?_
          refine am_ev.step (pc' := 42) rfl rfl ?_
          refine am_ev.step (pc' := 15) rfl rfl ?_
          exact q
        refine ⟨fun ⟨j, j1, j2, j3⟩ => stp _ (i1 ⟨j, ?_, j2, j3⟩), fun x hn q => stp _ (i2 x (fun j j1 j2 => hn j (by omega) j2) q)⟩
        by_cases ej : (j : Int) = c.toInt
        · have : c.toInt.toNat = j := by omega
          rw [this] at hp
          exact absurd j3 hp
        · omega
theorem ca_225 {h : am_H} {n p : Int32} {d : Nat} {ν : Nat → Int32} (O : am_isO h 78 13 = true) (v53 : h.2.2.2 78 53 = .int n) (v56 : h.2.2.2 78 56 = .ref 117) (A : 117 < h.1 ∧ h.2.2.1 117 = (1, 0, 14)) (n14 : n.toInt ≤ 14) (C : ∀ c : Nat, (c : Int) < n.toInt → h.2.2.2 117 c = .int (ν c)) : ∀ (k : Nat) (c : Int32), 0 ≤ c.toInt → c.toInt ≤ n.toInt → n.toInt - c.toInt ≤ k →
    ((∃ j : Nat, c.toInt ≤ j ∧ (j : Int) < n.toInt ∧ ν j = p) → am_ev d 225 13 [.ref 78, .int p, .int c] [] h (some (ax_m (-4)), h)) ∧ (∀ x, (∀ j : Nat, c.toInt ≤ j → (j : Int) < n.toInt → ν j ≠ p) → am_ev d 225 40 [.ref 78, .int p, .int n] [] h x → am_ev d 225 13 [.ref 78, .int p, .int c] [] h x) := by
  intro k
  induction k with
  | zero =>
    intro c c0 c1 ck
    have e : c = n := Int32.toInt_inj.1 (by omega)
    subst e
    have le : c ≤ c := Int32.le_iff_toInt_le.2 (Int.le_refl _)
    refine ⟨fun ⟨j, j1, j2, _⟩ => by omega, fun x _ q => ?_⟩
    refine am_ev.step (pc' := 14) rfl rfl ?_
    refine am_ev.step (pc' := 15) rfl rfl ?_
    refine ax_gf (p' := 18) rfl rfl O v53 ?_
    refine ax_c_ge_T (p' := 40) rfl rfl le ?_
    exact q
  | succ k ih =>
    intro c c0 c1 ck
    by_cases hc : n ≤ c
    · have hc' := Int32.le_iff_toInt_le.1 hc
      have e : c = n := Int32.toInt_inj.1 (by omega)
      subst e
      refine ⟨fun ⟨j, j1, j2, _⟩ => by omega, fun x _ q => ?_⟩
      refine am_ev.step (pc' := 14) rfl rfl ?_
      refine am_ev.step (pc' := 15) rfl rfl ?_
      refine ax_gf (p' := 18) rfl rfl O v53 ?_
      refine ax_c_ge_T (p' := 40) rfl rfl hc ?_
      exact q
    · have hc' : c.toInt < n.toInt := by
        have := mt Int32.le_iff_toInt_le.2 hc
        omega
      have rd : am_rd h 117 c (fun c => Nat.beq c 0) = some (.int (ν c.toInt.toNat)) := by
        rw [ax_rdv A.1 A.2 (by decide) (by decide) c0 (by omega), C _ (by omega)]
      by_cases hp : ν c.toInt.toNat = p
      · refine ⟨fun _ => ?_, fun x hn q => absurd hp (hn c.toInt.toNat (by omega) (by omega))⟩
        refine am_ev.step (pc' := 14) rfl rfl ?_
        refine am_ev.step (pc' := 15) rfl rfl ?_
        refine ax_gf (p' := 18) rfl rfl O v53 ?_
        refine ax_c_ge_N (p' := 21) rfl rfl hc ?_
        refine am_ev.step (pc' := 22) rfl rfl ?_
        refine ax_gf (p' := 25) rfl rfl O v56 ?_
        refine am_ev.step (pc' := 26) rfl rfl ?_
        refine ax_iaload (p' := 27) rfl rfl rd ?_
        refine am_ev.step (pc' := 28) rfl rfl ?_
        refine ax_c_ne_N (p' := 31) rfl rfl hp ?_
        refine am_ev.step (pc' := 33) rfl rfl ?_
        exact am_ev.reti rfl rfl rfl
      · have e1 := ax_1 (c := c) (by omega)
        obtain ⟨i1, i2⟩ := ih (c + Int32.ofInt 1) (by omega) (by omega) (by omega)
        have stp : ∀ x, am_ev d 225 13 [.ref 78, .int p, .int (c + Int32.ofInt 1)] [] h x → am_ev d 225 13 [.ref 78, .int p, .int c] [] h x := fun x q => by
          refine am_ev.step (pc' := 14) rfl rfl ?_
          refine am_ev.step (pc' := 15) rfl rfl ?_
          refine ax_gf (p' := 18) rfl rfl O v53 ?_
          refine ax_c_ge_N (p' := 21) rfl rfl hc ?_
          refine am_ev.step (pc' := 22) rfl rfl ?_
          refine ax_gf (p' := 25) rfl rfl O v56 ?_
          refine am_ev.step (pc' := 26) rfl rfl ?_
          refine ax_iaload (p' := 27) rfl rfl rd ?_
          refine am_ev.step (pc' := 28) rfl rfl ?_
          refine ax_c_ne_T (p' := 34) rfl rfl hp ?_
          refine am_ev.step (pc' := 37) rfl rfl ?_
          refine am_ev.step (pc' := 13) rfl rfl ?_
          exact q
        refine ⟨fun ⟨j, j1, j2, j3⟩ => stp _ (i1 ⟨j, ?_, j2, j3⟩), fun x hn q => stp _ (i2 x (fun j j1 j2 => hn j (by omega) j2) q)⟩
        by_cases ej : (j : Int) = c.toInt
        · have : c.toInt.toNat = j := by omega
          rw [this] at hp
          exact absurd j3 hp
        · omega
section CAN
variable {h : am_H} {d : Nat} {p m n : Int32}
theorem in_165t {a b c : Int64} (q : b.toInt ≤ a.toInt ∧ a.toInt ≤ c.toInt) : am_ev d 165 0 (am_ent [.long a, .long b, .long c] 6) [] h (some (.int (Int32.ofInt 1)), h) := by
  have c1 : ¬ lg_cmp a b < 0 := fun z => by
    have := (cq_cmp_s a b).1.1 (Int32.lt_iff_toInt_lt.1 z)
    omega
  have c2 : ¬ 0 < lg_cmp a c := fun z => by
    have z := Int32.lt_iff_toInt_lt.1 z
    rw [show (0 : Int32).toInt = 0 by decide] at z
    have k1 := (cq_cmp_s a c).1
    have k2 := (cq_cmp_s a c).2
    omega
  refine am_ev.step (pc' := 1) rfl rfl ?_
  refine am_ev.step (pc' := 2) rfl rfl ?_
  refine am_ev.step (pc' := 3) rfl rfl ?_
  refine ax_z_lt_N (p' := 6) rfl rfl c1 ?_
  refine am_ev.step (pc' := 7) rfl rfl ?_
  refine am_ev.step (pc' := 9) rfl rfl ?_
  refine am_ev.step (pc' := 10) rfl rfl ?_
  refine ax_z_gt_N (p' := 13) rfl rfl c2 ?_
  refine am_ev.step (pc' := 14) rfl rfl ?_
  refine am_ev.step (pc' := 18) rfl rfl ?_
  exact am_ev.reti rfl rfl rfl
theorem in_165f {a b c : Int64} (q : ¬ (b.toInt ≤ a.toInt ∧ a.toInt ≤ c.toInt)) : am_ev d 165 0 (am_ent [.long a, .long b, .long c] 6) [] h (some (.int (Int32.ofInt 0)), h) := by
  by_cases c1 : lg_cmp a b < 0
  · refine am_ev.step (pc' := 1) rfl rfl ?_
    refine am_ev.step (pc' := 2) rfl rfl ?_
    refine am_ev.step (pc' := 3) rfl rfl ?_
    refine ax_z_lt_T (p' := 17) rfl rfl c1 ?_
    refine am_ev.step (pc' := 18) rfl rfl ?_
    exact am_ev.reti rfl rfl rfl
  · have c2 : 0 < lg_cmp a c := Int32.lt_iff_toInt_lt.2 (by
      rw [show (0 : Int32).toInt = 0 by decide]
      have k0 := mt Int32.lt_iff_toInt_lt.2 c1
      rw [show (0 : Int32).toInt = 0 by decide] at k0
      have k1 := (cq_cmp_s a c).1
      have k2 := (cq_cmp_s a c).2
      have k3 := (cq_cmp_s a b).1
      omega)
    refine am_ev.step (pc' := 1) rfl rfl ?_
    refine am_ev.step (pc' := 2) rfl rfl ?_
    refine am_ev.step (pc' := 3) rfl rfl ?_
    refine ax_z_lt_N (p' := 6) rfl rfl c1 ?_
    refine am_ev.step (pc' := 7) rfl rfl ?_
    refine am_ev.step (pc' := 9) rfl rfl ?_
    refine am_ev.step (pc' := 10) rfl rfl ?_
    refine ax_z_gt_T (p' := 17) rfl rfl c2 ?_
    refine am_ev.step (pc' := 18) rfl rfl ?_
    exact am_ev.reti rfl rfl rfl
/-- isPoem -/
theorem po_188 (O : am_isO h 78 13 = true) (v : h.2.2.2 78 16 = .int m) (hm : 0 ≤ m.toInt ∧ m.toInt ≤ 40) : (0 ≤ p.toInt ∧ p.toInt < m.toInt → am_ev (d + 1) 188 0 (am_ent [.ref 78, .int p] 2) [] h (some (.int (Int32.ofInt 1)), h)) ∧ (¬ (0 ≤ p.toInt ∧ p.toInt < m.toInt) → am_ev (d + 1) 188 0 (am_ent [.ref 78, .int p] 2) [] h (some (.int (Int32.ofInt 0)), h)) := by
  have e0 : p.toInt64.toInt = p.toInt := Int32.toInt_toInt64 p
  have e1 : (m.toInt64 - Int64.ofNat 1).toInt = m.toInt - 1 := by
    rw [Int64.toInt_sub, Int32.toInt_toInt64, show (Int64.ofNat 1).toInt = 1 by decide, Int.bmod_eq_of_le (by omega) (by omega)]
  have e2 : (Int64.ofNat 0).toInt = 0 := by decide
  refine ⟨fun q => ?_, fun q => ?_⟩
  · have H := in_165t (h := h) (d := d) (a := p.toInt64) (b := Int64.ofNat 0) (c := m.toInt64 - Int64.ofNat 1) (by omega)
    refine am_ev.step (pc' := 1) rfl rfl ?_
    refine am_ev.step (pc' := 2) rfl rfl ?_
    refine am_ev.step (pc' := 3) rfl rfl ?_
    refine am_ev.step (pc' := 4) rfl rfl ?_
    refine ax_gf (p' := 7) rfl rfl O v ?_
    refine am_ev.step (pc' := 8) rfl rfl ?_
    refine am_ev.step (pc' := 9) rfl rfl ?_
    refine am_ev.step (pc' := 10) rfl rfl ?_
    refine ax_call (z := 165) (p' := 13) (as := [_, _, _]) rfl (Or.inl ⟨_, rfl⟩) rfl rfl rfl rfl rfl rfl rfl rfl H rfl ?_
    exact am_ev.reti rfl rfl rfl
  · have H := in_165f (h := h) (d := d) (a := p.toInt64) (b := Int64.ofNat 0) (c := m.toInt64 - Int64.ofNat 1) (by omega)
    refine am_ev.step (pc' := 1) rfl rfl ?_
    refine am_ev.step (pc' := 2) rfl rfl ?_
    refine am_ev.step (pc' := 3) rfl rfl ?_
    refine am_ev.step (pc' := 4) rfl rfl ?_
    refine ax_gf (p' := 7) rfl rfl O v ?_
    refine am_ev.step (pc' := 8) rfl rfl ?_
    refine am_ev.step (pc' := 9) rfl rfl ?_
    refine am_ev.step (pc' := 10) rfl rfl ?_
    refine ax_call (z := 165) (p' := 13) (as := [_, _, _]) rfl (Or.inl ⟨_, rfl⟩) rfl rfl rfl rfl rfl rfl rfl rfl H rfl ?_
    exact am_ev.reti rfl rfl rfl
/-- poemAt -/
theorem po_42 (I : cq_Inv none h) (v : h.2.2.2 40 8 = .int m) (hm : 0 ≤ m.toInt ∧ m.toInt ≤ 40) : (0 ≤ p.toInt ∧ p.toInt < m.toInt → am_ev d 42 0 (am_ent [.ref 40, .int p] 2) [] h (some (h.2.2.2 73 p.toInt.toNat), h)) ∧ (¬ (0 ≤ p.toInt ∧ p.toInt < m.toInt) → am_ev d 42 0 (am_ent [.ref 40, .int p] 2) [] h (some .null, h)) := by
  have O := ax_o I (c := 40) (k := 11) (by decide +kernel)
  have v7 := ax_rf I (c := 40) (j := 7) (k := 73) (by decide +kernel) (by decide +kernel)
  have A := ax_ar I (c := 73) (tc := 10) (n := 40) (by decide) (by decide +kernel)
  have z0 : (0 : Int32).toInt = 0 := by decide
  refine ⟨fun q => ?_, fun q => ?_⟩
  · have c1 : ¬ p < 0 := fun z => by
      have := Int32.lt_iff_toInt_lt.1 z
      omega
    have c2 : p < m := Int32.lt_iff_toInt_lt.2 q.2
    have t := ax_ty I (c := 73) (j := p.toInt.toNat) (t := (5, 0, 0, 6, 0, 0)) ?_ ?_
    · rcases t with t | ⟨s, t, -⟩
      · have rd : am_rd h 73 p (fun c => Nat.ble 4 c && am_isA c) = some .null := by
          rw [ax_rdv A.1 A.2 (by decide) (by decide +kernel) q.1 (by omega), t]
        rw [t]
        refine am_ev.step (pc' := 1) rfl rfl ?_
        refine ax_z_lt_N (p' := 4) rfl rfl c1 ?_
        refine am_ev.step (pc' := 5) rfl rfl ?_
        refine am_ev.step (pc' := 6) rfl rfl ?_
        refine ax_gf (p' := 9) rfl rfl O v ?_
        refine ax_c_lt_T (p' := 16) rfl rfl c2 ?_
        refine am_ev.step (pc' := 17) rfl rfl ?_
        refine ax_gf (p' := 20) rfl rfl O v7 ?_
        refine am_ev.step (pc' := 21) rfl rfl ?_
        refine ax_aaload (p' := 22) rfl rfl rd ?_
        first | exact am_ev.reta rfl rfl | exact am_ev.retn rfl rfl
      · have rd : am_rd h 73 p (fun c => Nat.ble 4 c && am_isA c) = some (.ref s) := by
          rw [ax_rdv A.1 A.2 (by decide) (by decide +kernel) q.1 (by omega), t]
        rw [t]
        refine am_ev.step (pc' := 1) rfl rfl ?_
        refine ax_z_lt_N (p' := 4) rfl rfl c1 ?_
        refine am_ev.step (pc' := 5) rfl rfl ?_
        refine am_ev.step (pc' := 6) rfl rfl ?_
        refine ax_gf (p' := 9) rfl rfl O v ?_
        refine ax_c_lt_T (p' := 16) rfl rfl c2 ?_
        refine am_ev.step (pc' := 17) rfl rfl ?_
        refine ax_gf (p' := 20) rfl rfl O v7 ?_
        refine am_ev.step (pc' := 21) rfl rfl ?_
        refine ax_aaload (p' := 22) rfl rfl rd ?_
        first | exact am_ev.reta rfl rfl | exact am_ev.retn rfl rfl
    · have : p.toInt.toNat < 40 := by omega
      rw [show Nat.blt p.toInt.toNat (cq_fix 73).2.2 = true from Nat.ble_eq_true_of_le this]
      decide +kernel
    · unfold cq_ty
      rw [show cq_isA 73 = true by decide +kernel, show ((Nat.beq 73 81 || Nat.beq 73 83) && Nat.beq p.toInt.toNat 1) = false from rfl]
      show cq_ar 73 = _
      decide +kernel
  · by_cases c1 : p < 0
    · refine am_ev.step (pc' := 1) rfl rfl ?_
      refine ax_z_lt_T (p' := 12) rfl rfl c1 ?_
      refine am_ev.step (pc' := 13) rfl rfl ?_
      refine am_ev.step (pc' := 22) rfl rfl ?_
      first | exact am_ev.reta rfl rfl | exact am_ev.retn rfl rfl
    · have c2 : ¬ p < m := fun z => by
        have k1 := Int32.lt_iff_toInt_lt.1 z
        have k2 := mt Int32.lt_iff_toInt_lt.2 c1
        omega
      refine am_ev.step (pc' := 1) rfl rfl ?_
      refine ax_z_lt_N (p' := 4) rfl rfl c1 ?_
      refine am_ev.step (pc' := 5) rfl rfl ?_
      refine am_ev.step (pc' := 6) rfl rfl ?_
      refine ax_gf (p' := 9) rfl rfl O v ?_
      refine ax_c_lt_N (p' := 12) rfl rfl c2 ?_
      refine am_ev.step (pc' := 13) rfl rfl ?_
      refine am_ev.step (pc' := 22) rfl rfl ?_
      first | exact am_ev.reta rfl rfl | exact am_ev.retn rfl rfl
/-- Candidate's constructor -/
theorem co_102 {a pm : Nat} (O : am_isO h a 1 = true) : ∃ g : am_H, am_ev (d + 1) 102 0 (am_ent [.ref a, .int p, .ref pm] 3) [] h (none, g) ∧ g.1 = h.1 ∧ g.2.2.1 = h.2.2.1 ∧ g.2.2.2 a 0 = .int p ∧ ∀ c j, c ≠ a → g.2.2.2 c j = h.2.2.2 c j := by
  refine ⟨am_put (am_put (am_put (am_put (am_put (am_put (am_put (am_put h a 2 (.int (Int32.ofInt 0))) a 3 (.int (Int32.ofInt (-1)))) a 4 .null) a 5 (.int (Int32.ofInt (-1)))) a 6 (.int (Int32.ofInt 0))) a 7 (.int (Int32.ofInt 0))) a 0 (.int p)) a 1 (.ref pm), ?_, rfl, rfl, ax_put_o (Or.inr (by decide)) (ax_put_s _ _ _), fun c j hc => ?_⟩
  · refine am_ev.step (pc' := 1) rfl rfl ?_
    refine ax_obj (p' := 4) rfl ?_ rfl rfl rfl ?_
    · exact Or.inr (Or.inr ⟨_, rfl⟩)
    refine am_ev.step (pc' := 5) rfl rfl ?_
    refine am_ev.step (pc' := 6) rfl rfl ?_
    refine ax_pf (p' := 9) rfl rfl O rfl ?_
    refine am_ev.step (pc' := 10) rfl rfl ?_
    refine am_ev.step (pc' := 11) rfl rfl ?_
    refine ax_pf (p' := 14) rfl rfl O rfl ?_
    refine am_ev.step (pc' := 15) rfl rfl ?_
    refine am_ev.step (pc' := 16) rfl rfl ?_
    refine ax_pf (p' := 19) rfl rfl O rfl ?_
    refine am_ev.step (pc' := 20) rfl rfl ?_
    refine am_ev.step (pc' := 21) rfl rfl ?_
    refine ax_pf (p' := 24) rfl rfl O rfl ?_
    refine am_ev.step (pc' := 25) rfl rfl ?_
    refine am_ev.step (pc' := 26) rfl rfl ?_
    refine ax_pf (p' := 29) rfl rfl O rfl ?_
    refine am_ev.step (pc' := 30) rfl rfl ?_
    refine am_ev.step (pc' := 31) rfl rfl ?_
    refine ax_pf (p' := 34) rfl rfl O rfl ?_
    refine am_ev.step (pc' := 35) rfl rfl ?_
    refine am_ev.step (pc' := 36) rfl rfl ?_
    refine ax_pf (p' := 39) rfl rfl O rfl ?_
    refine am_ev.step (pc' := 40) rfl rfl ?_
    refine am_ev.step (pc' := 41) rfl rfl ?_
    refine ax_pf (p' := 44) rfl rfl O rfl ?_
    exact am_ev.retv rfl rfl
  · refine ax_put_o (Or.inl hc) (ax_put_o (Or.inl hc) (ax_put_o (Or.inl hc) (ax_put_o (Or.inl hc) (ax_put_o (Or.inl hc) (ax_put_o (Or.inl hc) (ax_put_o (Or.inl hc) (ax_put_o (Or.inl hc) rfl)))))))
/-- the class's last part: one more -/
theorem ca_101d {pm : Nat} (I : cq_Inv none h) (v13 : h.2.2.2 40 13 = .int n) (hn : 0 ≤ n.toInt ∧ n.toInt < 14) : ∃ g : am_H, am_ev (d + 2) 101 45 [.ref 40, .int p, .ref pm, .int n] [] h (some (.int (n + Int32.ofInt 1 - Int32.ofInt 1)), g) ∧ g.2.2.2 40 13 = .int (n + Int32.ofInt 1) ∧ g.2.2.2 74 n.toInt.toNat = .ref h.1 ∧ g.2.2.2 h.1 0 = .int p ∧ ∀ c, c ≠ n.toInt.toNat → g.2.2.2 74 c = h.2.2.2 74 c := by
  have lo := I.lo
  have O := ax_o I (c := 40) (k := 11) (by decide +kernel)
  have O63 := ax_o I (c := 63) (k := 2) (by decide +kernel)
  have O72 := ax_o I (c := 72) (k := 10) (by decide +kernel)
  have v12 := ax_rf I (c := 40) (j := 12) (k := 74) (by decide +kernel) (by decide +kernel)
  have v4 := ax_rf I (c := 40) (j := 4) (k := 63) (by decide +kernel) (by decide +kernel)
  have v6 := ax_rf I (c := 40) (j := 6) (k := 72) (by decide +kernel) (by decide +kernel)
  have A := ax_ar I (c := 74) (tc := 5) (n := 14) (by decide) (by decide +kernel)
  have lt : n < (Int8.ofInt 14).toInt32 := Int32.lt_iff_toInt_lt.2 (by
    rw [show (Int8.ofInt 14).toInt32.toInt = 14 by decide]
    exact hn.2)
  obtain ⟨k, hk⟩ : ∃ k : am_H, k = am_mk h (0, 1, am_N 1) (am_N 1) (fun j => defaultValue (am_ty 1 j)) := ⟨_, rfl⟩
  have k1 : k.1 = h.1 + 1 := by rw [hk]; rfl
  have ks : ∀ c, c ≠ h.1 → k.2.2.1 c = h.2.2.1 c := fun c hc => by
    rw [hk]
    exact if_neg hc
  have ka : k.2.2.1 h.1 = (0, 1, am_N 1) := by
    rw [hk]
    exact if_pos rfl
  have kv : ∀ c j, c ≠ h.1 → k.2.2.2 c j = h.2.2.2 c j := fun c j hc => by
    rw [hk]
    exact if_neg hc
  have Ok : am_isO k h.1 1 = true := by
    unfold am_isO
    rw [ka, k1, show Nat.blt h.1 (h.1 + 1) = true from Nat.ble_eq_true_of_le (Nat.le_refl _)]
    rfl
  obtain ⟨g, ev, g1, gs, ga, gv⟩ := co_102 (d := d) (p := p) (pm := pm) Ok
  have tr : ∀ c : Nat, c < 130 → c ≠ h.1 := fun c hc => by omega
  have isO : ∀ c x : Nat, c < 130 → am_isO h c x = true → am_isO g c x = true := fun c x hc q => by
    unfold am_isO at q ⊢
    have q1 := (Bool.and_eq_true _ _ ▸ q)
    have q2 := (Bool.and_eq_true _ _ ▸ q1.1)
    rw [g1, gs, ks c (tr c hc), k1, q2.2, q1.2, show Nat.blt c (h.1 + 1) = true from Nat.ble_eq_true_of_le (by omega)]
    rfl
  have val : ∀ c j, c < 130 → g.2.2.2 c j = h.2.2.2 c j := fun c j hc => by rw [gv c j (tr c hc), kv c j (tr c hc)]
  have sa : g.2.2.1 h.1 = (0, 1, am_N 1) := by rw [gs, ka]
  have Oa : am_isO g h.1 1 = true := by
    unfold am_isO
    rw [sa, g1, k1, show Nat.blt h.1 (h.1 + 1) = true from Nat.ble_eq_true_of_le (Nat.le_refl _)]
    rfl
  have WR : am_isO g h.1 (g.2.2.1 h.1).2.1 = true ∧ am_isA ((g.2.2.1 h.1).2.1 + 4) = true ∧ am_wr g 74 n ((g.2.2.1 h.1).2.1 + 4) (.ref h.1) = some (am_put g 74 n.toInt.toNat (.ref h.1)) := by
    rw [sa]
    exact ⟨Oa, by decide +kernel, ax_wrv (by rw [g1, k1]; omega) (by rw [gs, ks 74 (tr 74 (by decide)), A.2]) hn.1 (by omega)⟩
  have Og := isO 40 11 (by decide) O
  have Og63 := isO 63 2 (by decide) O63
  have Og72 := isO 72 10 (by decide) O72
  obtain ⟨g2, e2⟩ : ∃ g2 : am_H, g2 = am_put g 74 n.toInt.toNat (.ref h.1) := ⟨_, rfl⟩
  rw [← e2] at WR
  have f13 : g2.2.2.2 40 13 = .int n := by
    rw [e2]
    exact ax_put_o (Or.inl (by decide)) (by rw [val 40 13 (by decide), v13])
  have f4 : g2.2.2.2 40 4 = .ref 63 := by
    rw [e2]
    exact ax_put_o (Or.inl (by decide)) (by rw [val 40 4 (by decide), v4])
  have f6 : g2.2.2.2 40 6 = .ref 72 := by
    rw [e2]
    exact ax_put_o (Or.inl (by decide)) (by rw [val 40 6 (by decide), v6])
  have O2 : am_isO g2 40 11 = true := by rw [e2]; exact Og
  have O263 : am_isO g2 63 2 = true := by rw [e2]; exact Og63
  have O272 : am_isO g2 72 10 = true := by rw [e2]; exact Og72
  refine ⟨am_put (am_put (am_put g2 40 13 (.int (n + Int32.ofInt 1))) 63 0 (.int (Int32.ofInt 0))) 72 0 (.int (Int32.ofInt 0)), ?_, ?_, ?_, ?_, fun c hc => ?_⟩
  · refine am_ev.step (pc' := 46) rfl rfl ?_
    refine ax_gf (p' := 49) rfl rfl O v13 ?_
    refine am_ev.step (pc' := 51) rfl rfl ?_
    refine ax_c_lt_T (p' := 57) rfl rfl lt ?_
    refine am_ev.step (pc' := 58) rfl rfl ?_
    refine ax_gf (p' := 61) rfl rfl O v12 ?_
    refine am_ev.step (pc' := 62) rfl rfl ?_
    refine ax_gf (p' := 65) rfl rfl O v13 ?_
    refine am_ev.step (pc' := 68) rfl rfl ?_
    refine am_ev.step (pc' := 69) rfl rfl ?_
    refine am_ev.step (pc' := 70) rfl rfl ?_
    refine am_ev.step (pc' := 71) rfl rfl ?_
    refine ax_call (z := 102) (p' := 74) (as := [_, _, _]) rfl (Or.inr (Or.inr ⟨_, rfl⟩)) rfl rfl rfl rfl rfl rfl rfl rfl (by rw [← hk]; exact ev) rfl ?_
    refine ax_aastore (p' := 75) rfl rfl WR ?_
    refine am_ev.step (pc' := 76) rfl rfl ?_
    refine am_ev.step (pc' := 77) rfl rfl ?_
    refine ax_gf (p' := 80) rfl rfl O2 f13 ?_
    refine am_ev.step (pc' := 81) rfl rfl ?_
    refine am_ev.step (pc' := 82) rfl rfl ?_
    refine ax_pf (p' := 85) rfl rfl O2 rfl ?_
    refine am_ev.step (pc' := 86) rfl rfl ?_
    refine ax_gf (p' := 89) rfl rfl O2 (ax_put_o (Or.inr (by decide)) f4) ?_
    refine am_ev.step (pc' := 90) rfl rfl ?_
    refine ax_pf (p' := 93) rfl rfl O263 rfl ?_
    refine am_ev.step (pc' := 94) rfl rfl ?_
    refine ax_gf (p' := 97) rfl rfl O2 (ax_put_o (Or.inl (by decide)) (ax_put_o (Or.inr (by decide)) f6)) ?_
    refine am_ev.step (pc' := 98) rfl rfl ?_
    refine ax_pf (p' := 101) rfl rfl O272 rfl ?_
    refine am_ev.step (pc' := 102) rfl rfl ?_
    refine ax_gf (p' := 105) rfl rfl O2 (ax_put_o (Or.inl (by decide)) (ax_put_o (Or.inl (by decide)) (ax_put_s _ _ _))) ?_
    refine am_ev.step (pc' := 106) rfl rfl ?_
    refine am_ev.step (pc' := 107) rfl rfl ?_
    exact am_ev.reti rfl rfl rfl
  · exact ax_put_o (Or.inl (by decide)) (ax_put_o (Or.inl (by decide)) (ax_put_s _ _ _))
  · refine ax_put_o (Or.inl (by decide)) (ax_put_o (Or.inl (by decide)) (ax_put_o (Or.inl (by decide)) ?_))
    rw [e2]
    exact ax_put_s _ _ _
  · refine ax_put_o (Or.inl (by omega)) (ax_put_o (Or.inl (by omega)) (ax_put_o (Or.inl (by omega)) ?_))
    rw [e2]
    exact ax_put_o (Or.inl (by omega)) ga
  · refine ax_put_o (Or.inl (by decide)) (ax_put_o (Or.inl (by decide)) (ax_put_o (Or.inl (by decide)) ?_))
    rw [e2]
    exact ax_put_o (Or.inr hc) (val 74 c (by decide))
/-- the reference's last part -/
theorem ca_225d (I : cq_Inv none h) (v53 : h.2.2.2 78 53 = .int n) (hn : 0 ≤ n.toInt ∧ n.toInt < 14) : ∃ g : am_H, am_ev d 225 40 [.ref 78, .int p, .int n] [] h (some (.int (n + Int32.ofInt 1 - Int32.ofInt 1)), g) ∧ g.2.2.2 78 53 = .int (n + Int32.ofInt 1) ∧ g.2.2.2 117 n.toInt.toNat = .int p ∧ ∀ c, c ≠ n.toInt.toNat → g.2.2.2 117 c = h.2.2.2 117 c := by
  have O := ax_o I (c := 78) (k := 13) (by decide +kernel)
  have v56 := ax_rf I (c := 78) (j := 56) (k := 117) (by decide +kernel) (by decide +kernel)
  have A := ax_ar I (c := 117) (tc := 0) (n := 14) (by decide) (by decide +kernel)
  have ne : ¬ n = (Int8.ofInt 14).toInt32 := fun z => by
    rw [z, show (Int8.ofInt 14).toInt32.toInt = 14 by decide] at hn
    omega
  have WR : am_wr h 117 n 0 (.int p) = some (am_put h 117 n.toInt.toNat (.int p)) := ax_wrv A.1 A.2 hn.1 (by omega)
  obtain ⟨g2, e2⟩ : ∃ g2 : am_H, g2 = am_put h 117 n.toInt.toNat (.int p) := ⟨_, rfl⟩
  rw [← e2] at WR
  have f53 : g2.2.2.2 78 53 = .int n := by
    rw [e2]
    exact ax_put_o (Or.inl (by decide)) v53
  have O2 : am_isO g2 78 13 = true := by rw [e2]; exact O
  refine ⟨am_put (am_put (am_put g2 78 53 (.int (n + Int32.ofInt 1))) 78 54 (.int (Int32.ofInt 0))) 78 75 (.int (Int32.ofInt 0)), ?_, ?_, ?_, fun c hc => ?_⟩
  · refine am_ev.step (pc' := 41) rfl rfl ?_
    refine ax_gf (p' := 44) rfl rfl O v53 ?_
    refine am_ev.step (pc' := 46) rfl rfl ?_
    refine ax_c_ne_T (p' := 52) rfl rfl ne ?_
    refine am_ev.step (pc' := 53) rfl rfl ?_
    refine ax_gf (p' := 56) rfl rfl O v56 ?_
    refine am_ev.step (pc' := 57) rfl rfl ?_
    refine ax_gf (p' := 60) rfl rfl O v53 ?_
    refine am_ev.step (pc' := 61) rfl rfl ?_
    refine ax_iastore (p' := 62) rfl rfl WR ?_
    refine am_ev.step (pc' := 63) rfl rfl ?_
    refine am_ev.step (pc' := 64) rfl rfl ?_
    refine ax_gf (p' := 67) rfl rfl O2 f53 ?_
    refine am_ev.step (pc' := 68) rfl rfl ?_
    refine am_ev.step (pc' := 69) rfl rfl ?_
    refine ax_pf (p' := 72) rfl rfl O2 rfl ?_
    refine am_ev.step (pc' := 73) rfl rfl ?_
    refine am_ev.step (pc' := 74) rfl rfl ?_
    refine ax_pf (p' := 77) rfl rfl O2 rfl ?_
    refine am_ev.step (pc' := 78) rfl rfl ?_
    refine am_ev.step (pc' := 79) rfl rfl ?_
    refine ax_pf (p' := 82) rfl rfl O2 rfl ?_
    refine am_ev.step (pc' := 83) rfl rfl ?_
    refine ax_gf (p' := 86) rfl rfl O2 (ax_put_o (Or.inr (by decide)) (ax_put_o (Or.inr (by decide)) (ax_put_s _ _ _))) ?_
    refine am_ev.step (pc' := 87) rfl rfl ?_
    refine am_ev.step (pc' := 88) rfl rfl ?_
    exact am_ev.reti rfl rfl rfl
  · exact ax_put_o (Or.inr (by decide)) (ax_put_o (Or.inr (by decide)) (ax_put_s _ _ _))
  · refine ax_put_o (Or.inl (by decide)) (ax_put_o (Or.inl (by decide)) (ax_put_o (Or.inl (by decide)) ?_))
    rw [e2]
    exact ax_put_s _ _ _
  · refine ax_put_o (Or.inl (by decide)) (ax_put_o (Or.inl (by decide)) (ax_put_o (Or.inl (by decide)) ?_))
    rw [e2]
    exact ax_put_o (Or.inr hc) rfl
end CAN
end
section
/-! POEM, on both sides -/
/-- what a heap has below a cell stays -/
def ax_old (n : Nat) (h g : am_H) : Prop := h.1 ≤ g.1 ∧ (∀ c, c < n → g.2.2.1 c = h.2.2.1 c) ∧ ∀ c j, c < n → g.2.2.2 c j = h.2.2.2 c j
section OLD
variable {n : Nat} {h g : am_H}
theorem ax_old.rf : ax_old n h h := ⟨Nat.le_refl _, fun _ _ => rfl, fun _ _ _ => rfl⟩
theorem ax_old.put (q : ax_old n h g) {k j : Nat} {v : Value} (hk : n ≤ k) : ax_old n h (am_put g k j v) := ⟨q.1, q.2.1, fun c i hc => ax_put_o (Or.inl (by omega)) (q.2.2 c i hc)⟩
theorem ax_old.mk (q : ax_old n h g) {sh : am_Sh} {N : Nat} {d : Nat → Value} (hn : n ≤ g.1) : ax_old n h (am_mk g sh N d) := ⟨Nat.le_succ_of_le q.1, fun c hc => by
    show (if c = g.1 then sh else g.2.2.1 c) = _
    rw [if_neg (by omega)]
    exact q.2.1 c hc, fun c j hc => by
    show (if c = g.1 then d j else g.2.2.2 c j) = _
    rw [if_neg (by omega)]
    exact q.2.2 c j hc⟩
theorem ax_old.isO (q : ax_old n h g) {c k : Nat} (hc : c < n) (z : am_isO h c k = true) : am_isO g c k = true := by
  unfold am_isO at z ⊢
  have q1 := (Bool.and_eq_true _ _ ▸ z)
  have q2 := (Bool.and_eq_true _ _ ▸ q1.1)
  have q3 : c < h.1 := Nat.le_of_ble_eq_true q2.1
  rw [q.2.1 c hc, q2.2, q1.2, show Nat.blt c g.1 = true from Nat.ble_eq_true_of_le (Nat.lt_of_lt_of_le q3 q.1)]
  rfl
end OLD
section POE
variable {h : am_H} {d : Nat} {m a b c e : Int32}
theorem iw_39 {u v : Int32} : (0 ≤ u.toInt ∧ u.toInt ≤ v.toInt → am_ev d 39 0 (am_ent [.int u, .int v] 2) [] h (some (.int (Int32.ofInt 1)), h)) ∧ (¬ (0 ≤ u.toInt ∧ u.toInt ≤ v.toInt) → am_ev d 39 0 (am_ent [.int u, .int v] 2) [] h (some (.int (Int32.ofInt 0)), h)) := by
  have z0 : (0 : Int32).toInt = 0 := by decide
  refine ⟨fun q => ?_, fun q => ?_⟩
  · have c1 : ¬ u < 0 := fun z => by
      have := Int32.lt_iff_toInt_lt.1 z
      omega
    have c2 : ¬ v < u := fun z => by
      have := Int32.lt_iff_toInt_lt.1 z
      omega
    refine am_ev.step (pc' := 1) rfl rfl ?_
    refine ax_z_lt_N (p' := 4) rfl rfl c1 ?_
    refine am_ev.step (pc' := 5) rfl rfl ?_
    refine am_ev.step (pc' := 6) rfl rfl ?_
    refine ax_c_gt_N (p' := 9) rfl rfl c2 ?_
    refine am_ev.step (pc' := 10) rfl rfl ?_
    refine am_ev.step (pc' := 14) rfl rfl ?_
    exact am_ev.reti rfl rfl rfl
  · by_cases c1 : u < 0
    · refine am_ev.step (pc' := 1) rfl rfl ?_
      refine ax_z_lt_T (p' := 13) rfl rfl c1 ?_
      refine am_ev.step (pc' := 14) rfl rfl ?_
      exact am_ev.reti rfl rfl rfl
    · have c2 : v < u := Int32.lt_iff_toInt_lt.2 (by
        have := mt Int32.lt_iff_toInt_lt.2 c1
        omega)
      refine am_ev.step (pc' := 1) rfl rfl ?_
      refine ax_z_lt_N (p' := 4) rfl rfl c1 ?_
      refine am_ev.step (pc' := 5) rfl rfl ?_
      refine am_ev.step (pc' := 6) rfl rfl ?_
      refine ax_c_gt_T (p' := 13) rfl rfl c2 ?_
      refine am_ev.step (pc' := 14) rfl rfl ?_
      exact am_ev.reti rfl rfl rfl
/-- in, of ints -/
theorem in_n {u : Int32} {l g : Nat} (hl : l < 100000) (hg : g < 100000) : ((l : Int) ≤ u.toInt ∧ u.toInt ≤ g → am_ev d 165 0 (am_ent [.long u.toInt64, .long (Int64.ofNat l), .long (Int64.ofNat g)] 6) [] h (some (.int (Int32.ofInt 1)), h)) ∧ (¬ ((l : Int) ≤ u.toInt ∧ u.toInt ≤ g) → am_ev d 165 0 (am_ent [.long u.toInt64, .long (Int64.ofNat l), .long (Int64.ofNat g)] 6) [] h (some (.int (Int32.ofInt 0)), h)) := by
  have e0 : u.toInt64.toInt = u.toInt := Int32.toInt_toInt64 u
  have e1 : (Int64.ofNat l).toInt = (l : Int) := Int64.toInt_ofNat_of_lt (by omega)
  have e2 : (Int64.ofNat g).toInt = (g : Int) := Int64.toInt_ofNat_of_lt (by omega)
  exact ⟨fun q => in_165t (by omega), fun q => in_165f (by omega)⟩
theorem ip_186 : (0 ≤ a.toInt ∧ a.toInt ≤ 19 → am_ev (d + 1) 186 0 (am_ent [.int a] 1) [] h (some (.int (Int32.ofInt 1)), h)) ∧ (¬ (0 ≤ a.toInt ∧ a.toInt ≤ 19) → am_ev (d + 1) 186 0 (am_ent [.int a] 1) [] h (some (.int (Int32.ofInt 0)), h)) := by
  refine ⟨fun q => ?_, fun q => ?_⟩
  · have H := (in_n (h := h) (d := d) (u := a) (l := 0) (g := 19) (by decide) (by decide)).1 q
    refine am_ev.step (pc' := 1) rfl rfl ?_
    refine am_ev.step (pc' := 2) rfl rfl ?_
    refine am_ev.step (pc' := 3) rfl rfl ?_
    refine am_ev.step (pc' := 6) rfl rfl ?_
    refine ax_call (z := 165) (p' := 9) (as := [_, _, _]) rfl (Or.inl ⟨_, rfl⟩) rfl rfl rfl rfl rfl rfl rfl rfl H rfl ?_
    exact am_ev.reti rfl rfl rfl
  · have H := (in_n (h := h) (d := d) (u := a) (l := 0) (g := 19) (by decide) (by decide)).2 q
    refine am_ev.step (pc' := 1) rfl rfl ?_
    refine am_ev.step (pc' := 2) rfl rfl ?_
    refine am_ev.step (pc' := 3) rfl rfl ?_
    refine am_ev.step (pc' := 6) rfl rfl ?_
    refine ax_call (z := 165) (p' := 9) (as := [_, _, _]) rfl (Or.inl ⟨_, rfl⟩) rfl rfl rfl rfl rfl rfl rfl rfl H rfl ?_
    exact am_ev.reti rfl rfl rfl
def po_ok (a b c e : Int32) : Prop := (0 ≤ a.toInt ∧ a.toInt ≤ 19) ∧ (0 ≤ b.toInt ∧ b.toInt ≤ 2100) ∧ (0 ≤ c.toInt ∧ c.toInt ≤ 19) ∧ (0 ≤ e.toInt ∧ e.toInt ≤ 99)
theorem pc_38f (q : ¬ po_ok a b c e) : am_ev (d + 1) 38 0 (am_ent [.ref 40, .int a, .int b, .int c, .int e] 5) [] h (some (ax_m (-2)), h) := by
  by_cases q1 : 0 ≤ a.toInt ∧ a.toInt ≤ 19
  · have H1 := (iw_39 (h := h) (d := d) (u := a) (v := (Int8.ofInt 19).toInt32)).1 (by rw [show (Int8.ofInt 19).toInt32.toInt = 19 by decide]; exact q1)
    by_cases q2 : 0 ≤ b.toInt ∧ b.toInt ≤ 2100
    · have H2 := (iw_39 (h := h) (d := d) (u := b) (v := (Int16.ofInt 2100).toInt32)).1 (by rw [show (Int16.ofInt 2100).toInt32.toInt = 2100 by decide]; exact q2)
      by_cases q3 : 0 ≤ c.toInt ∧ c.toInt ≤ 19
      · have H3 := (iw_39 (h := h) (d := d) (u := c) (v := (Int8.ofInt 19).toInt32)).1 (by rw [show (Int8.ofInt 19).toInt32.toInt = 19 by decide]; exact q3)
        have q4 : ¬ (0 ≤ e.toInt ∧ e.toInt ≤ 99) := fun q4 => q ⟨q1, q2, q3, q4⟩
        have H4 := (iw_39 (h := h) (d := d) (u := e) (v := (Int8.ofInt 99).toInt32)).2 (by rw [show (Int8.ofInt 99).toInt32.toInt = 99 by decide]; exact q4)
        refine am_ev.step (pc' := 1) rfl rfl ?_
        refine am_ev.step (pc' := 3) rfl rfl ?_
        refine ax_call (z := 39) (p' := 6) (as := [_, _]) rfl (Or.inl ⟨_, rfl⟩) rfl rfl rfl rfl rfl rfl rfl rfl H1 rfl ?_
        refine ax_z_eq_N (p' := 9) rfl rfl (by decide : ¬ Int32.ofInt 1 = 0) ?_
        refine am_ev.step (pc' := 10) rfl rfl ?_
        refine am_ev.step (pc' := 13) rfl rfl ?_
        refine ax_call (z := 39) (p' := 16) (as := [_, _]) rfl (Or.inl ⟨_, rfl⟩) rfl rfl rfl rfl rfl rfl rfl rfl H2 rfl ?_
        refine ax_z_eq_N (p' := 19) rfl rfl (by decide : ¬ Int32.ofInt 1 = 0) ?_
        refine am_ev.step (pc' := 20) rfl rfl ?_
        refine am_ev.step (pc' := 22) rfl rfl ?_
        refine ax_call (z := 39) (p' := 25) (as := [_, _]) rfl (Or.inl ⟨_, rfl⟩) rfl rfl rfl rfl rfl rfl rfl rfl H3 rfl ?_
        refine ax_z_eq_N (p' := 28) rfl rfl (by decide : ¬ Int32.ofInt 1 = 0) ?_
        refine am_ev.step (pc' := 30) rfl rfl ?_
        refine am_ev.step (pc' := 32) rfl rfl ?_
        refine ax_call (z := 39) (p' := 35) (as := [_, _]) rfl (Or.inl ⟨_, rfl⟩) rfl rfl rfl rfl rfl rfl rfl rfl H4 rfl ?_
        refine ax_z_ne_N (p' := 38) rfl rfl (by decide : Int32.ofInt 0 = 0) ?_
        refine am_ev.step (pc' := 40) rfl rfl ?_
        exact am_ev.reti rfl rfl rfl
      · have H3 := (iw_39 (h := h) (d := d) (u := c) (v := (Int8.ofInt 19).toInt32)).2 (by rw [show (Int8.ofInt 19).toInt32.toInt = 19 by decide]; exact q3)
        refine am_ev.step (pc' := 1) rfl rfl ?_
        refine am_ev.step (pc' := 3) rfl rfl ?_
        refine ax_call (z := 39) (p' := 6) (as := [_, _]) rfl (Or.inl ⟨_, rfl⟩) rfl rfl rfl rfl rfl rfl rfl rfl H1 rfl ?_
        refine ax_z_eq_N (p' := 9) rfl rfl (by decide : ¬ Int32.ofInt 1 = 0) ?_
        refine am_ev.step (pc' := 10) rfl rfl ?_
        refine am_ev.step (pc' := 13) rfl rfl ?_
        refine ax_call (z := 39) (p' := 16) (as := [_, _]) rfl (Or.inl ⟨_, rfl⟩) rfl rfl rfl rfl rfl rfl rfl rfl H2 rfl ?_
        refine ax_z_eq_N (p' := 19) rfl rfl (by decide : ¬ Int32.ofInt 1 = 0) ?_
        refine am_ev.step (pc' := 20) rfl rfl ?_
        refine am_ev.step (pc' := 22) rfl rfl ?_
        refine ax_call (z := 39) (p' := 25) (as := [_, _]) rfl (Or.inl ⟨_, rfl⟩) rfl rfl rfl rfl rfl rfl rfl rfl H3 rfl ?_
        refine ax_z_eq_T (p' := 38) rfl rfl (by decide : Int32.ofInt 0 = 0) ?_
        refine am_ev.step (pc' := 40) rfl rfl ?_
        exact am_ev.reti rfl rfl rfl
    · have H2 := (iw_39 (h := h) (d := d) (u := b) (v := (Int16.ofInt 2100).toInt32)).2 (by rw [show (Int16.ofInt 2100).toInt32.toInt = 2100 by decide]; exact q2)
      refine am_ev.step (pc' := 1) rfl rfl ?_
      refine am_ev.step (pc' := 3) rfl rfl ?_
      refine ax_call (z := 39) (p' := 6) (as := [_, _]) rfl (Or.inl ⟨_, rfl⟩) rfl rfl rfl rfl rfl rfl rfl rfl H1 rfl ?_
      refine ax_z_eq_N (p' := 9) rfl rfl (by decide : ¬ Int32.ofInt 1 = 0) ?_
      refine am_ev.step (pc' := 10) rfl rfl ?_
      refine am_ev.step (pc' := 13) rfl rfl ?_
      refine ax_call (z := 39) (p' := 16) (as := [_, _]) rfl (Or.inl ⟨_, rfl⟩) rfl rfl rfl rfl rfl rfl rfl rfl H2 rfl ?_
      refine ax_z_eq_T (p' := 38) rfl rfl (by decide : Int32.ofInt 0 = 0) ?_
      refine am_ev.step (pc' := 40) rfl rfl ?_
      exact am_ev.reti rfl rfl rfl
  · have H1 := (iw_39 (h := h) (d := d) (u := a) (v := (Int8.ofInt 19).toInt32)).2 (by rw [show (Int8.ofInt 19).toInt32.toInt = 19 by decide]; exact q1)
    refine am_ev.step (pc' := 1) rfl rfl ?_
    refine am_ev.step (pc' := 3) rfl rfl ?_
    refine ax_call (z := 39) (p' := 6) (as := [_, _]) rfl (Or.inl ⟨_, rfl⟩) rfl rfl rfl rfl rfl rfl rfl rfl H1 rfl ?_
    refine ax_z_eq_T (p' := 38) rfl rfl (by decide : Int32.ofInt 0 = 0) ?_
    refine am_ev.step (pc' := 40) rfl rfl ?_
    exact am_ev.reti rfl rfl rfl
theorem pc_38u (I : cq_Inv none h) (q : po_ok a b c e) (v : h.2.2.2 40 8 = .int m) (hm : 40 ≤ m.toInt) : am_ev (d + 1) 38 0 (am_ent [.ref 40, .int a, .int b, .int c, .int e] 5) [] h (some (ax_m (-3)), h) := by
  have O := ax_o I (c := 40) (k := 11) (by decide +kernel)
  have H1 := (iw_39 (h := h) (d := d) (u := a) (v := (Int8.ofInt 19).toInt32)).1 (by rw [show (Int8.ofInt 19).toInt32.toInt = 19 by decide]; exact q.1)
  have H2 := (iw_39 (h := h) (d := d) (u := b) (v := (Int16.ofInt 2100).toInt32)).1 (by rw [show (Int16.ofInt 2100).toInt32.toInt = 2100 by decide]; exact q.2.1)
  have H3 := (iw_39 (h := h) (d := d) (u := c) (v := (Int8.ofInt 19).toInt32)).1 (by rw [show (Int8.ofInt 19).toInt32.toInt = 19 by decide]; exact q.2.2.1)
  have H4 := (iw_39 (h := h) (d := d) (u := e) (v := (Int8.ofInt 99).toInt32)).1 (by rw [show (Int8.ofInt 99).toInt32.toInt = 99 by decide]; exact q.2.2.2)
  have lt : ¬ m < (Int8.ofInt 40).toInt32 := fun z => by
    have z := Int32.lt_iff_toInt_lt.1 z
    rw [show (Int8.ofInt 40).toInt32.toInt = 40 by decide] at z
    omega
  refine am_ev.step (pc' := 1) rfl rfl ?_
  refine am_ev.step (pc' := 3) rfl rfl ?_
  refine ax_call (z := 39) (p' := 6) (as := [_, _]) rfl (Or.inl ⟨_, rfl⟩) rfl rfl rfl rfl rfl rfl rfl rfl H1 rfl ?_
  refine ax_z_eq_N (p' := 9) rfl rfl (by decide : ¬ Int32.ofInt 1 = 0) ?_
  refine am_ev.step (pc' := 10) rfl rfl ?_
  refine am_ev.step (pc' := 13) rfl rfl ?_
  refine ax_call (z := 39) (p' := 16) (as := [_, _]) rfl (Or.inl ⟨_, rfl⟩) rfl rfl rfl rfl rfl rfl rfl rfl H2 rfl ?_
  refine ax_z_eq_N (p' := 19) rfl rfl (by decide : ¬ Int32.ofInt 1 = 0) ?_
  refine am_ev.step (pc' := 20) rfl rfl ?_
  refine am_ev.step (pc' := 22) rfl rfl ?_
  refine ax_call (z := 39) (p' := 25) (as := [_, _]) rfl (Or.inl ⟨_, rfl⟩) rfl rfl rfl rfl rfl rfl rfl rfl H3 rfl ?_
  refine ax_z_eq_N (p' := 28) rfl rfl (by decide : ¬ Int32.ofInt 1 = 0) ?_
  refine am_ev.step (pc' := 30) rfl rfl ?_
  refine am_ev.step (pc' := 32) rfl rfl ?_
  refine ax_call (z := 39) (p' := 35) (as := [_, _]) rfl (Or.inl ⟨_, rfl⟩) rfl rfl rfl rfl rfl rfl rfl rfl H4 rfl ?_
  refine ax_z_ne_T (p' := 41) rfl rfl (by decide : ¬ Int32.ofInt 1 = 0) ?_
  refine am_ev.step (pc' := 42) rfl rfl ?_
  refine ax_gf (p' := 45) rfl rfl O v ?_
  refine am_ev.step (pc' := 47) rfl rfl ?_
  refine ax_c_lt_N (p' := 50) rfl rfl lt ?_
  refine am_ev.step (pc' := 52) rfl rfl ?_
  exact am_ev.reti rfl rfl rfl
/-- what a new poem has besides: year, holder, worth, no translation, no editions, its two arrays from cell q on -/
def pO (g : am_H) (x q : Nat) (b c e : Int32) : Prop := g.2.2.2 x 1 = .int b ∧ g.2.2.2 x 2 = .int c ∧ g.2.2.2 x 3 = .int e ∧ g.2.2.2 x 5 = .int (Int32.ofInt 0) ∧ g.2.2.2 x 6 = .int (Int32.ofInt 0) ∧ g.2.2.2 x 7 = .ref q ∧ g.2.2.2 x 8 = .ref (q + 1) ∧ (∀ j, j < 3 → g.2.2.2 (q + 1) j = .int (Int32.ofInt (-1))) ∧ g.2.2.1 q = (1, 7, 3) ∧ g.2.2.1 (q + 1) = (1, 0, 3) ∧ g.1 = q + 2
theorem pc_40 {x : Nat} (O : am_isO h x 6 = true) : ∃ g : am_H, am_ev (d + 1) 40 0 (am_ent [.ref x, .int a, .int b, .int c, .int e] 5) [] h (none, g) ∧ ax_old x h g ∧ g.2.2.1 x = h.2.2.1 x ∧ g.2.2.2 x 0 = .int a ∧ g.2.2.2 x 4 = .int (Int32.ofInt (-1)) ∧ pO g x h.1 b c e := by
  have xl : x < h.1 := by
    unfold am_isO at O
    have q1 := (Bool.and_eq_true _ _ ▸ O)
    have q2 := (Bool.and_eq_true _ _ ▸ q1.1)
    exact Nat.le_of_ble_eq_true q2.1
  obtain ⟨h1, e1⟩ : ∃ h1 : am_H, h1 = am_put (am_put (am_put h x 4 (.int (Int32.ofInt (-1)))) x 5 (.int (Int32.ofInt 0))) x 6 (.int (Int32.ofInt 0)) := ⟨_, rfl⟩
  have o1 : ax_old x h h1 := by
    rw [e1]
    exact ((ax_old.rf.put (Nat.le_refl _)).put (Nat.le_refl _)).put (Nat.le_refl _)
  have s1 : h1.1 = h.1 ∧ h1.2.2.1 = h.2.2.1 := by
    rw [e1]
    exact ⟨rfl, rfl⟩
  have v1 : h1.2.2.2 x 4 = .int (Int32.ofInt (-1)) := by
    rw [e1]
    exact ax_put_o (Or.inr (by decide)) (ax_put_o (Or.inr (by decide)) (ax_put_s _ _ _))
  have O1 : am_isO h1 x 6 = true := by
    rw [e1]
    exact O
  obtain ⟨h2, e2⟩ : ∃ h2 : am_H, h2 = am_mk h1 (1, 7, (Int32.ofInt 3).toNatClampNeg) (Int32.ofInt 3).toNatClampNeg (fun _ => .null) := ⟨_, rfl⟩
  have o2 : ax_old x h h2 := by
    rw [e2]
    exact o1.mk (by rw [s1.1]; exact Nat.le_of_lt xl)
  have n2 : h2.1 = h.1 + 1 := by
    rw [e2]
    show h1.1 + 1 = _
    rw [s1.1]
  have sx2 : h2.2.2.1 x = h.2.2.1 x := by
    rw [e2]
    show (if x = h1.1 then _ else h1.2.2.1 x) = _
    rw [if_neg (by rw [s1.1]; omega), s1.2]
  have v2 : h2.2.2.2 x 4 = .int (Int32.ofInt (-1)) := by
    rw [e2]
    show (if x = h1.1 then _ else h1.2.2.2 x 4) = _
    rw [if_neg (by rw [s1.1]; omega), v1]
  have O2 : am_isO h2 x 6 = true := by
    unfold am_isO at O ⊢
    have q1 := (Bool.and_eq_true _ _ ▸ O)
    have q2 := (Bool.and_eq_true _ _ ▸ q1.1)
    rw [sx2, q2.2, q1.2, n2, show Nat.blt x (h.1 + 1) = true from Nat.ble_eq_true_of_le (by omega)]
    rfl
  obtain ⟨h3, e3⟩ : ∃ h3 : am_H, h3 = am_put h2 x 7 (.ref h1.1) := ⟨_, rfl⟩
  obtain ⟨h4, e4⟩ : ∃ h4 : am_H, h4 = am_mk h3 (1, 0, (Int32.ofInt 3).toNatClampNeg) (Int32.ofInt 3).toNatClampNeg (fun _ => am_dv 0) := ⟨_, rfl⟩
  have o3 : ax_old x h h3 := by
    rw [e3]
    exact o2.put (Nat.le_refl _)
  have n3 : h3.1 = h.1 + 1 := by
    rw [e3]
    exact n2
  have o4 : ax_old x h h4 := by
    rw [e4]
    exact o3.mk (by rw [n3]; omega)
  have n4 : h4.1 = h.1 + 2 := by
    rw [e4]
    show h3.1 + 1 = _
    rw [n3]
  have sx4 : h4.2.2.1 x = h.2.2.1 x := by
    rw [e4]
    show (if x = h3.1 then _ else h3.2.2.1 x) = _
    rw [if_neg (by rw [n3]; omega), e3]
    exact sx2
  have v4 : h4.2.2.2 x 4 = .int (Int32.ofInt (-1)) := by
    rw [e4]
    show (if x = h3.1 then _ else h3.2.2.2 x 4) = _
    rw [if_neg (by rw [n3]; omega), e3]
    exact ax_put_o (Or.inr (by decide)) v2
  have O4 : am_isO h4 x 6 = true := by
    unfold am_isO at O ⊢
    have q1 := (Bool.and_eq_true _ _ ▸ O)
    have q2 := (Bool.and_eq_true _ _ ▸ q1.1)
    rw [sx4, q2.2, q1.2, n4, show Nat.blt x (h.1 + 2) = true from Nat.ble_eq_true_of_le (by omega)]
    rfl
  have sy : h4.2.2.1 h3.1 = (1, 0, 3) := by
    rw [e4]
    show (if h3.1 = h3.1 then _ else _) = _
    rw [if_pos rfl]
    rfl
  have ly : h3.1 < h4.1 := by
    rw [n3, n4]
    omega
  have wr : ∀ (k : am_H) (j : Int32), k.1 = h4.1 → k.2.2.1 = h4.2.2.1 → 0 ≤ j.toInt → j.toInt < 3 → am_wr k h3.1 j 0 (.int (Int32.ofInt (-1))) = some (am_put k h3.1 j.toInt.toNat (.int (Int32.ofInt (-1)))) := fun k j q1 q2 j0 j1 => ax_wrv (by rw [q1]; exact ly) (by rw [q2]; exact sy) j0 (by omega)
  obtain ⟨h5, e5⟩ : ∃ h5 : am_H, h5 = am_put (am_put (am_put h4 h3.1 (Int32.ofInt 0).toInt.toNat (.int (Int32.ofInt (-1)))) h3.1 (Int32.ofInt 1).toInt.toNat (.int (Int32.ofInt (-1)))) h3.1 (Int32.ofInt 2).toInt.toNat (.int (Int32.ofInt (-1))) := ⟨_, rfl⟩
  have yx : x ≤ h3.1 := by
    rw [n3]
    omega
  have o5 : ax_old x h h5 := by
    rw [e5]
    exact ((o4.put yx).put yx).put yx
  have sx5 : h5.2.2.1 x = h.2.2.1 x := by
    rw [e5]
    exact sx4
  have v5 : h5.2.2.2 x 4 = .int (Int32.ofInt (-1)) := by
    rw [e5]
    exact ax_put_o (Or.inl (by rw [n3]; omega)) (ax_put_o (Or.inl (by rw [n3]; omega)) (ax_put_o (Or.inl (by rw [n3]; omega)) v4))
  have O5 : am_isO h5 x 6 = true := by
    rw [e5]
    exact O4
  have w1 := wr h4 (Int32.ofInt 0) rfl rfl (by decide) (by decide)
  have w2 := wr (am_put h4 h3.1 (Int32.ofInt 0).toInt.toNat (.int (Int32.ofInt (-1)))) (Int32.ofInt 1) rfl rfl (by decide) (by decide)
  have w3 := wr (am_put (am_put h4 h3.1 (Int32.ofInt 0).toInt.toNat (.int (Int32.ofInt (-1)))) h3.1 (Int32.ofInt 1).toInt.toNat (.int (Int32.ofInt (-1)))) (Int32.ofInt 2) rfl rfl (by decide) (by decide)
  rw [← e5] at w3
  have xv : ∀ j, j ≠ 7 → h5.2.2.2 x j = h1.2.2.2 x j := fun j hj => by
    rw [e5]
    refine Eq.trans (ax_put_o (Or.inl (by rw [n3]; omega)) (ax_put_o (Or.inl (by rw [n3]; omega)) (ax_put_o (Or.inl (by rw [n3]; omega)) rfl))) ?_
    rw [e4]
    show (if x = h3.1 then _ else h3.2.2.2 x j) = _
    rw [if_neg (by rw [n3]; omega), e3]
    refine Eq.trans (ax_put_o (Or.inr hj) rfl) ?_
    rw [e2]
    show (if x = h1.1 then _ else h1.2.2.2 x j) = _
    rw [if_neg (by rw [s1.1]; omega)]
  have x5 : h5.2.2.2 x 5 = .int (Int32.ofInt 0) := by
    rw [xv 5 (by decide), e1]
    exact ax_put_o (Or.inr (by decide)) (ax_put_s _ _ _)
  have x6 : h5.2.2.2 x 6 = .int (Int32.ofInt 0) := by
    rw [xv 6 (by decide), e1]
    exact ax_put_s _ _ _
  have x7 : h5.2.2.2 x 7 = .ref h.1 := by
    rw [e5]
    refine Eq.trans (ax_put_o (Or.inl (by rw [n3]; omega)) (ax_put_o (Or.inl (by rw [n3]; omega)) (ax_put_o (Or.inl (by rw [n3]; omega)) rfl))) ?_
    rw [e4]
    show (if x = h3.1 then _ else h3.2.2.2 x 7) = _
    rw [if_neg (by rw [n3]; omega), e3, s1.1]
    exact ax_put_s _ _ _
  have q1 : h5.2.2.1 h.1 = (1, 7, 3) := by
    rw [e5]
    show h4.2.2.1 h.1 = _
    rw [e4]
    show (if h.1 = h3.1 then _ else h3.2.2.1 h.1) = _
    rw [if_neg (by rw [n3]; omega), e3]
    show h2.2.2.1 h.1 = _
    rw [e2]
    show (if h.1 = h1.1 then _ else h1.2.2.1 h.1) = _
    rw [if_pos s1.1.symm]
    rfl
  have q2 : h5.2.2.1 (h.1 + 1) = (1, 0, 3) := by
    rw [e5]
    show h4.2.2.1 (h.1 + 1) = _
    rw [← n3]
    exact sy
  have i0 : (Int32.ofInt 0).toInt.toNat = 0 := by decide
  have i1 : (Int32.ofInt 1).toInt.toNat = 1 := by decide
  have i2 : (Int32.ofInt 2).toInt.toNat = 2 := by decide
  have x9 : ∀ j, j < 3 → h5.2.2.2 (h.1 + 1) j = .int (Int32.ofInt (-1)) := fun j hj => by
    rw [e5, i0, i1, i2, n3]
    have hj : j = 0 ∨ j = 1 ∨ j = 2 := by omega
    rcases hj with rfl | rfl | rfl
    · exact ax_put_o (Or.inr (by decide)) (ax_put_o (Or.inr (by decide)) (ax_put_s _ _ _))
    · exact ax_put_o (Or.inr (by decide)) (ax_put_s _ _ _)
    · exact ax_put_s _ _ _
  have n5 : h5.1 = h.1 + 2 := by
    rw [e5]
    exact n4
  refine ⟨am_put (am_put (am_put (am_put (am_put h5 x 8 (.ref h3.1)) x 0 (.int a)) x 1 (.int b)) x 2 (.int c)) x 3 (.int e), ?_, ((((o5.put (Nat.le_refl _)).put (Nat.le_refl _)).put (Nat.le_refl _)).put (Nat.le_refl _)).put (Nat.le_refl _), sx5, ?_, ?_, ?_⟩
  · refine am_ev.step (pc' := 1) rfl rfl ?_
    refine ax_obj (p' := 4) rfl ?_ rfl rfl rfl ?_
    · exact Or.inr (Or.inr ⟨_, rfl⟩)
    refine am_ev.step (pc' := 5) rfl rfl ?_
    refine am_ev.step (pc' := 6) rfl rfl ?_
    refine ax_pf (p' := 9) rfl rfl O rfl ?_
    refine am_ev.step (pc' := 10) rfl rfl ?_
    refine am_ev.step (pc' := 11) rfl rfl ?_
    refine ax_pf (p' := 14) rfl rfl O rfl ?_
    refine am_ev.step (pc' := 15) rfl rfl ?_
    refine am_ev.step (pc' := 16) rfl rfl ?_
    refine ax_pf (p' := 19) rfl rfl O rfl ?_
    refine am_ev.step (pc' := 20) rfl rfl ?_
    rw [← e1]
    refine am_ev.step (pc' := 21) rfl rfl ?_
    refine am_ev.step (pc' := 24) (h' := h2) rfl (by rw [e2]; rfl) ?_
    refine ax_pf (p' := 27) rfl rfl O2 rfl ?_
    rw [← e3]
    refine am_ev.step (pc' := 28) rfl rfl ?_
    refine am_ev.step (pc' := 29) rfl rfl ?_
    refine am_ev.step (pc' := 31) (h' := h4) rfl (by rw [e4]; rfl) ?_
    refine am_ev.step (pc' := 32) rfl rfl ?_
    refine am_ev.step (pc' := 33) rfl rfl ?_
    refine am_ev.step (pc' := 34) rfl rfl ?_
    refine ax_iastore (p' := 35) rfl rfl w1 ?_
    refine am_ev.step (pc' := 36) rfl rfl ?_
    refine am_ev.step (pc' := 37) rfl rfl ?_
    refine am_ev.step (pc' := 38) rfl rfl ?_
    refine ax_iastore (p' := 39) rfl rfl w2 ?_
    refine am_ev.step (pc' := 40) rfl rfl ?_
    refine am_ev.step (pc' := 41) rfl rfl ?_
    refine am_ev.step (pc' := 42) rfl rfl ?_
    refine ax_iastore (p' := 43) rfl rfl w3 ?_
    refine ax_pf (p' := 46) rfl rfl O5 rfl ?_
    refine am_ev.step (pc' := 47) rfl rfl ?_
    refine am_ev.step (pc' := 48) rfl rfl ?_
    refine ax_pf (p' := 51) rfl rfl O5 rfl ?_
    refine am_ev.step (pc' := 52) rfl rfl ?_
    refine am_ev.step (pc' := 53) rfl rfl ?_
    refine ax_pf (p' := 56) rfl rfl O5 rfl ?_
    refine am_ev.step (pc' := 57) rfl rfl ?_
    refine am_ev.step (pc' := 58) rfl rfl ?_
    refine ax_pf (p' := 61) rfl rfl O5 rfl ?_
    refine am_ev.step (pc' := 62) rfl rfl ?_
    refine am_ev.step (pc' := 64) rfl rfl ?_
    refine ax_pf (p' := 67) rfl rfl O5 rfl ?_
    exact am_ev.retv rfl rfl
  · exact ax_put_o (Or.inr (by decide)) (ax_put_o (Or.inr (by decide)) (ax_put_o (Or.inr (by decide)) (ax_put_s _ _ _)))
  · exact ax_put_o (Or.inr (by decide)) (ax_put_o (Or.inr (by decide)) (ax_put_o (Or.inr (by decide)) (ax_put_o (Or.inr (by decide)) (ax_put_o (Or.inr (by decide)) v5))))
  · have xo : ∀ j, 4 ≤ j → j ≠ 8 → (am_put (am_put (am_put (am_put (am_put h5 x 8 (.ref h3.1)) x 0 (.int a)) x 1 (.int b)) x 2 (.int c)) x 3 (.int e)).2.2.2 x j = h5.2.2.2 x j := fun j a1 a2 => ax_put_o (Or.inr (by omega)) (ax_put_o (Or.inr (by omega)) (ax_put_o (Or.inr (by omega)) (ax_put_o (Or.inr (by omega)) (ax_put_o (Or.inr a2) rfl))))
    refine ⟨ax_put_o (Or.inr (by decide)) (ax_put_o (Or.inr (by decide)) (ax_put_s _ _ _)), ax_put_o (Or.inr (by decide)) (ax_put_s _ _ _), ax_put_s _ _ _, (xo 5 (by decide) (by decide)).trans x5, (xo 6 (by decide) (by decide)).trans x6, (xo 7 (by decide) (by decide)).trans x7, ?_, fun j hj => ?_, q1, q2, n5⟩
    · rw [← n3]
      exact ax_put_o (Or.inr (by decide)) (ax_put_o (Or.inr (by decide)) (ax_put_o (Or.inr (by decide)) (ax_put_o (Or.inr (by decide)) (ax_put_s _ _ _))))
    · exact Eq.trans (ax_put_o (Or.inl (by omega)) (ax_put_o (Or.inl (by omega)) (ax_put_o (Or.inl (by omega)) (ax_put_o (Or.inl (by omega)) (ax_put_o (Or.inl (by omega)) rfl))))) (x9 j hj)
theorem pc_38d (I : cq_Inv none h) (q : po_ok a b c e) (v : h.2.2.2 40 8 = .int m) (hm : 0 ≤ m.toInt ∧ m.toInt < 40) : ∃ g : am_H, am_ev (d + 2) 38 0 (am_ent [.ref 40, .int a, .int b, .int c, .int e] 5) [] h (some (.int (m + Int32.ofInt 1 - Int32.ofInt 1)), g) ∧ g.2.2.2 40 8 = .int (m + Int32.ofInt 1) ∧ g.2.2.2 73 m.toInt.toNat = .ref h.1 ∧ g.2.2.2 h.1 0 = .int a ∧ g.2.2.2 h.1 4 = .int (Int32.ofInt (-1)) ∧ (∀ j, j ≠ m.toInt.toNat → g.2.2.2 73 j = h.2.2.2 73 j) ∧ (∀ s j, 130 ≤ s → s < h.1 → g.2.2.2 s j = h.2.2.2 s j) ∧ pO g h.1 (h.1 + 1) b c e := by
  have lo := I.lo
  have O := ax_o I (c := 40) (k := 11) (by decide +kernel)
  have v7 := ax_rf I (c := 40) (j := 7) (k := 73) (by decide +kernel) (by decide +kernel)
  have A := ax_ar I (c := 73) (tc := 10) (n := 40) (by decide) (by decide +kernel)
  have H1 := (iw_39 (h := h) (d := d + 1) (u := a) (v := (Int8.ofInt 19).toInt32)).1 (by rw [show (Int8.ofInt 19).toInt32.toInt = 19 by decide]; exact q.1)
  have H2 := (iw_39 (h := h) (d := d + 1) (u := b) (v := (Int16.ofInt 2100).toInt32)).1 (by rw [show (Int16.ofInt 2100).toInt32.toInt = 2100 by decide]; exact q.2.1)
  have H3 := (iw_39 (h := h) (d := d + 1) (u := c) (v := (Int8.ofInt 19).toInt32)).1 (by rw [show (Int8.ofInt 19).toInt32.toInt = 19 by decide]; exact q.2.2.1)
  have H4 := (iw_39 (h := h) (d := d + 1) (u := e) (v := (Int8.ofInt 99).toInt32)).1 (by rw [show (Int8.ofInt 99).toInt32.toInt = 99 by decide]; exact q.2.2.2)
  have lt : m < (Int8.ofInt 40).toInt32 := Int32.lt_iff_toInt_lt.2 (by
    rw [show (Int8.ofInt 40).toInt32.toInt = 40 by decide]
    exact hm.2)
  obtain ⟨k, hk⟩ : ∃ k : am_H, k = am_mk h (0, 6, am_N 6) (am_N 6) (fun j => defaultValue (am_ty 6 j)) := ⟨_, rfl⟩
  have k1 : k.1 = h.1 + 1 := by rw [hk]; rfl
  have ko : ax_old h.1 h k := by
    rw [hk]
    exact ax_old.rf.mk (Nat.le_refl _)
  have ka : k.2.2.1 h.1 = (0, 6, am_N 6) := by
    rw [hk]
    exact if_pos rfl
  have Ok : am_isO k h.1 6 = true := by
    unfold am_isO
    rw [ka, k1, show Nat.blt h.1 (h.1 + 1) = true from Nat.ble_eq_true_of_le (Nat.le_refl _)]
    rfl
  obtain ⟨g, ev, go, gs, ga, gt, gp⟩ := pc_40 (d := d) (a := a) (b := b) (c := c) (e := e) Ok
  have go2 : ax_old h.1 h g := ⟨Nat.le_trans ko.1 go.1, fun c hc => by rw [go.2.1 c hc, ko.2.1 c hc], fun c j hc => by rw [go.2.2 c j hc, ko.2.2 c j hc]⟩
  have sa : g.2.2.1 h.1 = (0, 6, am_N 6) := by rw [gs, ka]
  have la : h.1 < g.1 := by
    have := go.1
    omega
  have Oa : am_isO g h.1 6 = true := by
    unfold am_isO
    rw [sa, show Nat.blt h.1 g.1 = true from Nat.ble_eq_true_of_le la]
    rfl
  have WR : am_isO g h.1 (g.2.2.1 h.1).2.1 = true ∧ am_isA ((g.2.2.1 h.1).2.1 + 4) = true ∧ am_wr g 73 m ((g.2.2.1 h.1).2.1 + 4) (.ref h.1) = some (am_put g 73 m.toInt.toNat (.ref h.1)) := by
    rw [sa]
    exact ⟨Oa, by decide +kernel, ax_wrv (by omega) (by rw [go2.2.1 73 (by omega), A.2]) hm.1 (by omega)⟩
  have Og := go2.isO (c := 40) (k := 11) (by omega) O
  obtain ⟨g2, e2⟩ : ∃ g2 : am_H, g2 = am_put g 73 m.toInt.toNat (.ref h.1) := ⟨_, rfl⟩
  rw [← e2] at WR
  have f8 : g2.2.2.2 40 8 = .int m := by
    rw [e2]
    exact ax_put_o (Or.inl (by decide)) (by rw [go2.2.2 40 8 (by omega), v])
  have O2 : am_isO g2 40 11 = true := by rw [e2]; exact Og
  refine ⟨am_put g2 40 8 (.int (m + Int32.ofInt 1)), ?_, ax_put_s _ _ _, ax_put_o (Or.inl (by decide)) ?_, ax_put_o (Or.inl (by omega)) ?_, ax_put_o (Or.inl (by omega)) ?_, fun j hj => ax_put_o (Or.inl (by decide)) ?_, fun s j h1 h2 => ax_put_o (Or.inl (by omega)) ?_, ?_⟩
  · refine am_ev.step (pc' := 1) rfl rfl ?_
    refine am_ev.step (pc' := 3) rfl rfl ?_
    refine ax_call (z := 39) (p' := 6) (as := [_, _]) rfl (Or.inl ⟨_, rfl⟩) rfl rfl rfl rfl rfl rfl rfl rfl H1 rfl ?_
    refine ax_z_eq_N (p' := 9) rfl rfl (by decide : ¬ Int32.ofInt 1 = 0) ?_
    refine am_ev.step (pc' := 10) rfl rfl ?_
    refine am_ev.step (pc' := 13) rfl rfl ?_
    refine ax_call (z := 39) (p' := 16) (as := [_, _]) rfl (Or.inl ⟨_, rfl⟩) rfl rfl rfl rfl rfl rfl rfl rfl H2 rfl ?_
    refine ax_z_eq_N (p' := 19) rfl rfl (by decide : ¬ Int32.ofInt 1 = 0) ?_
    refine am_ev.step (pc' := 20) rfl rfl ?_
    refine am_ev.step (pc' := 22) rfl rfl ?_
    refine ax_call (z := 39) (p' := 25) (as := [_, _]) rfl (Or.inl ⟨_, rfl⟩) rfl rfl rfl rfl rfl rfl rfl rfl H3 rfl ?_
    refine ax_z_eq_N (p' := 28) rfl rfl (by decide : ¬ Int32.ofInt 1 = 0) ?_
    refine am_ev.step (pc' := 30) rfl rfl ?_
    refine am_ev.step (pc' := 32) rfl rfl ?_
    refine ax_call (z := 39) (p' := 35) (as := [_, _]) rfl (Or.inl ⟨_, rfl⟩) rfl rfl rfl rfl rfl rfl rfl rfl H4 rfl ?_
    refine ax_z_ne_T (p' := 41) rfl rfl (by decide : ¬ Int32.ofInt 1 = 0) ?_
    refine am_ev.step (pc' := 42) rfl rfl ?_
    refine ax_gf (p' := 45) rfl rfl O v ?_
    refine am_ev.step (pc' := 47) rfl rfl ?_
    refine ax_c_lt_T (p' := 53) rfl rfl lt ?_
    refine am_ev.step (pc' := 54) rfl rfl ?_
    refine ax_gf (p' := 57) rfl rfl O v7 ?_
    refine am_ev.step (pc' := 58) rfl rfl ?_
    refine ax_gf (p' := 61) rfl rfl O v ?_
    refine am_ev.step (pc' := 64) rfl rfl ?_
    refine am_ev.step (pc' := 65) rfl rfl ?_
    refine am_ev.step (pc' := 66) rfl rfl ?_
    refine am_ev.step (pc' := 67) rfl rfl ?_
    refine am_ev.step (pc' := 68) rfl rfl ?_
    refine am_ev.step (pc' := 70) rfl rfl ?_
    refine ax_call (z := 40) (p' := 73) (as := [_, _, _, _, _]) rfl (Or.inr (Or.inr ⟨_, rfl⟩)) rfl rfl rfl rfl rfl rfl rfl rfl (by rw [← hk]; exact ev) rfl ?_
    refine ax_aastore (p' := 74) rfl rfl WR ?_
    refine am_ev.step (pc' := 75) rfl rfl ?_
    refine am_ev.step (pc' := 76) rfl rfl ?_
    refine ax_gf (p' := 79) rfl rfl O2 f8 ?_
    refine am_ev.step (pc' := 80) rfl rfl ?_
    refine am_ev.step (pc' := 81) rfl rfl ?_
    refine ax_pf (p' := 84) rfl rfl O2 rfl ?_
    refine am_ev.step (pc' := 85) rfl rfl ?_
    refine ax_gf (p' := 88) rfl rfl O2 (ax_put_s _ _ _) ?_
    refine am_ev.step (pc' := 89) rfl rfl ?_
    refine am_ev.step (pc' := 90) rfl rfl ?_
    exact am_ev.reti rfl rfl rfl
  · rw [e2]
    exact ax_put_s _ _ _
  · rw [e2]
    exact ax_put_o (Or.inl (by omega)) ga
  · rw [e2]
    exact ax_put_o (Or.inl (by omega)) gt
  · rw [e2]
    exact ax_put_o (Or.inr hj) (go2.2.2 73 j (by omega))
  · rw [e2]
    exact ax_put_o (Or.inl (by omega)) (go2.2.2 s j h2)
  · rw [k1] at gp
    obtain ⟨p1, p2, p3, p4, p5, p6, p7, p8, p9, p10, p11⟩ := gp
    have xo : ∀ s j, 130 ≤ s → (am_put g2 40 8 (.int (m + Int32.ofInt 1))).2.2.2 s j = g.2.2.2 s j := fun s j hs => by
      rw [e2]
      exact ax_put_o (Or.inl (by omega)) (ax_put_o (Or.inl (by omega)) rfl)
    refine ⟨(xo _ _ lo).trans p1, (xo _ _ lo).trans p2, (xo _ _ lo).trans p3, (xo _ _ lo).trans p4, (xo _ _ lo).trans p5, (xo _ _ lo).trans p6, (xo _ _ lo).trans p7, fun j hj => (xo _ _ (by omega)).trans (p8 j hj), ?_, ?_, ?_⟩
    · rw [e2]
      exact p9
    · rw [e2]
      exact p10
    · rw [e2]
      exact p11
theorem pm_185f (q : ¬ po_ok a b c e) : am_ev (d + 2) 185 0 (am_ent [.ref 78, .int a, .int b, .int c, .int e] 5) [] h (some (ax_m (-2)), h) := by
  by_cases q1 : 0 ≤ a.toInt ∧ a.toInt ≤ 19
  · have H1 := (ip_186 (h := h) (d := d) (a := a)).1 q1
    by_cases q2 : 0 ≤ b.toInt ∧ b.toInt ≤ 2100
    · have H2 := (in_n (h := h) (d := d + 1) (u := b) (l := 0) (g := 2100) (by decide) (by decide)).1 q2
      by_cases q3 : 0 ≤ c.toInt ∧ c.toInt ≤ 19
      · have H3 := (in_n (h := h) (d := d + 1) (u := c) (l := 0) (g := 19) (by decide) (by decide)).1 q3
        have q4 : ¬ (0 ≤ e.toInt ∧ e.toInt ≤ 99) := fun q4 => q ⟨q1, q2, q3, q4⟩
        have H4 := (in_n (h := h) (d := d + 1) (u := e) (l := 0) (g := 99) (by decide) (by decide)).2 q4
        refine am_ev.step (pc' := 1) rfl rfl ?_
        refine ax_call (z := 186) (p' := 4) (as := [_]) rfl (Or.inl ⟨_, rfl⟩) rfl rfl rfl rfl rfl rfl rfl rfl H1 rfl ?_
        refine ax_z_eq_N (p' := 7) rfl rfl (by decide : ¬ Int32.ofInt 1 = 0) ?_
        refine am_ev.step (pc' := 8) rfl rfl ?_
        refine am_ev.step (pc' := 9) rfl rfl ?_
        refine am_ev.step (pc' := 10) rfl rfl ?_
        refine am_ev.step (pc' := 13) rfl rfl ?_
        refine ax_call (z := 165) (p' := 16) (as := [_, _, _]) rfl (Or.inl ⟨_, rfl⟩) rfl rfl rfl rfl rfl rfl rfl rfl H2 rfl ?_
        refine ax_z_eq_N (p' := 19) rfl rfl (by decide : ¬ Int32.ofInt 1 = 0) ?_
        refine am_ev.step (pc' := 20) rfl rfl ?_
        refine am_ev.step (pc' := 21) rfl rfl ?_
        refine am_ev.step (pc' := 22) rfl rfl ?_
        refine am_ev.step (pc' := 25) rfl rfl ?_
        refine ax_call (z := 165) (p' := 28) (as := [_, _, _]) rfl (Or.inl ⟨_, rfl⟩) rfl rfl rfl rfl rfl rfl rfl rfl H3 rfl ?_
        refine ax_z_eq_N (p' := 31) rfl rfl (by decide : ¬ Int32.ofInt 1 = 0) ?_
        refine am_ev.step (pc' := 33) rfl rfl ?_
        refine am_ev.step (pc' := 34) rfl rfl ?_
        refine am_ev.step (pc' := 35) rfl rfl ?_
        refine am_ev.step (pc' := 38) rfl rfl ?_
        refine ax_call (z := 165) (p' := 41) (as := [_, _, _]) rfl (Or.inl ⟨_, rfl⟩) rfl rfl rfl rfl rfl rfl rfl rfl H4 rfl ?_
        refine ax_z_ne_N (p' := 44) rfl rfl (by decide : Int32.ofInt 0 = 0) ?_
        refine am_ev.step (pc' := 46) rfl rfl ?_
        exact am_ev.reti rfl rfl rfl
      · have H3 := (in_n (h := h) (d := d + 1) (u := c) (l := 0) (g := 19) (by decide) (by decide)).2 q3
        refine am_ev.step (pc' := 1) rfl rfl ?_
        refine ax_call (z := 186) (p' := 4) (as := [_]) rfl (Or.inl ⟨_, rfl⟩) rfl rfl rfl rfl rfl rfl rfl rfl H1 rfl ?_
        refine ax_z_eq_N (p' := 7) rfl rfl (by decide : ¬ Int32.ofInt 1 = 0) ?_
        refine am_ev.step (pc' := 8) rfl rfl ?_
        refine am_ev.step (pc' := 9) rfl rfl ?_
        refine am_ev.step (pc' := 10) rfl rfl ?_
        refine am_ev.step (pc' := 13) rfl rfl ?_
        refine ax_call (z := 165) (p' := 16) (as := [_, _, _]) rfl (Or.inl ⟨_, rfl⟩) rfl rfl rfl rfl rfl rfl rfl rfl H2 rfl ?_
        refine ax_z_eq_N (p' := 19) rfl rfl (by decide : ¬ Int32.ofInt 1 = 0) ?_
        refine am_ev.step (pc' := 20) rfl rfl ?_
        refine am_ev.step (pc' := 21) rfl rfl ?_
        refine am_ev.step (pc' := 22) rfl rfl ?_
        refine am_ev.step (pc' := 25) rfl rfl ?_
        refine ax_call (z := 165) (p' := 28) (as := [_, _, _]) rfl (Or.inl ⟨_, rfl⟩) rfl rfl rfl rfl rfl rfl rfl rfl H3 rfl ?_
        refine ax_z_eq_T (p' := 44) rfl rfl (by decide : Int32.ofInt 0 = 0) ?_
        refine am_ev.step (pc' := 46) rfl rfl ?_
        exact am_ev.reti rfl rfl rfl
    · have H2 := (in_n (h := h) (d := d + 1) (u := b) (l := 0) (g := 2100) (by decide) (by decide)).2 q2
      refine am_ev.step (pc' := 1) rfl rfl ?_
      refine ax_call (z := 186) (p' := 4) (as := [_]) rfl (Or.inl ⟨_, rfl⟩) rfl rfl rfl rfl rfl rfl rfl rfl H1 rfl ?_
      refine ax_z_eq_N (p' := 7) rfl rfl (by decide : ¬ Int32.ofInt 1 = 0) ?_
      refine am_ev.step (pc' := 8) rfl rfl ?_
      refine am_ev.step (pc' := 9) rfl rfl ?_
      refine am_ev.step (pc' := 10) rfl rfl ?_
      refine am_ev.step (pc' := 13) rfl rfl ?_
      refine ax_call (z := 165) (p' := 16) (as := [_, _, _]) rfl (Or.inl ⟨_, rfl⟩) rfl rfl rfl rfl rfl rfl rfl rfl H2 rfl ?_
      refine ax_z_eq_T (p' := 44) rfl rfl (by decide : Int32.ofInt 0 = 0) ?_
      refine am_ev.step (pc' := 46) rfl rfl ?_
      exact am_ev.reti rfl rfl rfl
  · have H1 := (ip_186 (h := h) (d := d) (a := a)).2 q1
    refine am_ev.step (pc' := 1) rfl rfl ?_
    refine ax_call (z := 186) (p' := 4) (as := [_]) rfl (Or.inl ⟨_, rfl⟩) rfl rfl rfl rfl rfl rfl rfl rfl H1 rfl ?_
    refine ax_z_eq_T (p' := 44) rfl rfl (by decide : Int32.ofInt 0 = 0) ?_
    refine am_ev.step (pc' := 46) rfl rfl ?_
    exact am_ev.reti rfl rfl rfl
theorem pm_185u (I : cq_Inv none h) (q : po_ok a b c e) (v : h.2.2.2 78 16 = .int m) (hm : m.toInt = 40) : am_ev (d + 2) 185 0 (am_ent [.ref 78, .int a, .int b, .int c, .int e] 5) [] h (some (ax_m (-3)), h) := by
  have O := ax_o I (c := 78) (k := 13) (by decide +kernel)
  have H1 := (ip_186 (h := h) (d := d) (a := a)).1 q.1
  have H2 := (in_n (h := h) (d := d + 1) (u := b) (l := 0) (g := 2100) (by decide) (by decide)).1 q.2.1
  have H3 := (in_n (h := h) (d := d + 1) (u := c) (l := 0) (g := 19) (by decide) (by decide)).1 q.2.2.1
  have H4 := (in_n (h := h) (d := d + 1) (u := e) (l := 0) (g := 99) (by decide) (by decide)).1 q.2.2.2
  have eq : m = (Int8.ofInt 40).toInt32 := Int32.toInt_inj.1 (by rw [hm]; decide)
  refine am_ev.step (pc' := 1) rfl rfl ?_
  refine ax_call (z := 186) (p' := 4) (as := [_]) rfl (Or.inl ⟨_, rfl⟩) rfl rfl rfl rfl rfl rfl rfl rfl H1 rfl ?_
  refine ax_z_eq_N (p' := 7) rfl rfl (by decide : ¬ Int32.ofInt 1 = 0) ?_
  refine am_ev.step (pc' := 8) rfl rfl ?_
  refine am_ev.step (pc' := 9) rfl rfl ?_
  refine am_ev.step (pc' := 10) rfl rfl ?_
  refine am_ev.step (pc' := 13) rfl rfl ?_
  refine ax_call (z := 165) (p' := 16) (as := [_, _, _]) rfl (Or.inl ⟨_, rfl⟩) rfl rfl rfl rfl rfl rfl rfl rfl H2 rfl ?_
  refine ax_z_eq_N (p' := 19) rfl rfl (by decide : ¬ Int32.ofInt 1 = 0) ?_
  refine am_ev.step (pc' := 20) rfl rfl ?_
  refine am_ev.step (pc' := 21) rfl rfl ?_
  refine am_ev.step (pc' := 22) rfl rfl ?_
  refine am_ev.step (pc' := 25) rfl rfl ?_
  refine ax_call (z := 165) (p' := 28) (as := [_, _, _]) rfl (Or.inl ⟨_, rfl⟩) rfl rfl rfl rfl rfl rfl rfl rfl H3 rfl ?_
  refine ax_z_eq_N (p' := 31) rfl rfl (by decide : ¬ Int32.ofInt 1 = 0) ?_
  refine am_ev.step (pc' := 33) rfl rfl ?_
  refine am_ev.step (pc' := 34) rfl rfl ?_
  refine am_ev.step (pc' := 35) rfl rfl ?_
  refine am_ev.step (pc' := 38) rfl rfl ?_
  refine ax_call (z := 165) (p' := 41) (as := [_, _, _]) rfl (Or.inl ⟨_, rfl⟩) rfl rfl rfl rfl rfl rfl rfl rfl H4 rfl ?_
  refine ax_z_ne_T (p' := 47) rfl rfl (by decide : ¬ Int32.ofInt 1 = 0) ?_
  refine am_ev.step (pc' := 48) rfl rfl ?_
  refine ax_gf (p' := 51) rfl rfl O v ?_
  refine am_ev.step (pc' := 53) rfl rfl ?_
  refine ax_c_ne_N (p' := 56) rfl rfl eq ?_
  refine am_ev.step (pc' := 58) rfl rfl ?_
  exact am_ev.reti rfl rfl rfl
theorem pm_185d (I : cq_Inv none h) (q : po_ok a b c e) (v : h.2.2.2 78 16 = .int m) (hm : 0 ≤ m.toInt ∧ m.toInt < 40) : ∃ g : am_H, am_ev (d + 2) 185 0 (am_ent [.ref 78, .int a, .int b, .int c, .int e] 5) [] h (some (.int (m + Int32.ofInt 1 - Int32.ofInt 1)), g) ∧ g.2.2.2 78 16 = .int (m + Int32.ofInt 1) ∧ g.2.2.2 86 m.toInt.toNat = .int a ∧ g.2.2.2 90 m.toInt.toNat = .int (Int32.ofInt (-1)) ∧ (∀ j, j ≠ m.toInt.toNat → g.2.2.2 86 j = h.2.2.2 86 j ∧ g.2.2.2 90 j = h.2.2.2 90 j) ∧ (g.2.2.2 87 m.toInt.toNat = .int b ∧ g.2.2.2 88 m.toInt.toNat = .int c ∧ g.2.2.2 89 m.toInt.toNat = .int e) ∧ ∀ k j, k ≠ 78 → (k < 86 ∨ 90 < k ∨ j ≠ m.toInt.toNat) → g.2.2.2 k j = h.2.2.2 k j := by
  have O := ax_o I (c := 78) (k := 13) (by decide +kernel)
  have v17 := ax_rf I (c := 78) (j := 17) (k := 86) (by decide +kernel) (by decide +kernel)
  have A86 := ax_ar I (c := 86) (tc := 0) (n := 40) (by decide) (by decide +kernel)
  have v18 := ax_rf I (c := 78) (j := 18) (k := 87) (by decide +kernel) (by decide +kernel)
  have A87 := ax_ar I (c := 87) (tc := 0) (n := 40) (by decide) (by decide +kernel)
  have v19 := ax_rf I (c := 78) (j := 19) (k := 88) (by decide +kernel) (by decide +kernel)
  have A88 := ax_ar I (c := 88) (tc := 0) (n := 40) (by decide) (by decide +kernel)
  have v20 := ax_rf I (c := 78) (j := 20) (k := 89) (by decide +kernel) (by decide +kernel)
  have A89 := ax_ar I (c := 89) (tc := 0) (n := 40) (by decide) (by decide +kernel)
  have v21 := ax_rf I (c := 78) (j := 21) (k := 90) (by decide +kernel) (by decide +kernel)
  have A90 := ax_ar I (c := 90) (tc := 0) (n := 40) (by decide) (by decide +kernel)
  have H1 := (ip_186 (h := h) (d := d) (a := a)).1 q.1
  have H2 := (in_n (h := h) (d := d + 1) (u := b) (l := 0) (g := 2100) (by decide) (by decide)).1 q.2.1
  have H3 := (in_n (h := h) (d := d + 1) (u := c) (l := 0) (g := 19) (by decide) (by decide)).1 q.2.2.1
  have H4 := (in_n (h := h) (d := d + 1) (u := e) (l := 0) (g := 99) (by decide) (by decide)).1 q.2.2.2
  have ne : ¬ m = (Int8.ofInt 40).toInt32 := fun z => by
    rw [z, show (Int8.ofInt 40).toInt32.toInt = 40 by decide] at hm
    omega
  have wr : ∀ (k : am_H) (x : Nat) (u : Int32), k.1 = h.1 → k.2.2.1 = h.2.2.1 → (x < h.1 ∧ h.2.2.1 x = (1, 0, 40)) → am_wr k x m 0 (.int u) = some (am_put k x m.toInt.toNat (.int u)) := fun k x u q1 q2 A => ax_wrv (by rw [q1]; exact A.1) (by rw [q2]; exact A.2) hm.1 (by omega)
  obtain ⟨g1, e1⟩ : ∃ g1 : am_H, g1 = am_put h 86 m.toInt.toNat (.int a) := ⟨_, rfl⟩
  obtain ⟨g2, e2⟩ : ∃ g2 : am_H, g2 = am_put g1 87 m.toInt.toNat (.int b) := ⟨_, rfl⟩
  obtain ⟨g3, e3⟩ : ∃ g3 : am_H, g3 = am_put g2 88 m.toInt.toNat (.int c) := ⟨_, rfl⟩
  obtain ⟨g4, e4⟩ : ∃ g4 : am_H, g4 = am_put g3 89 m.toInt.toNat (.int e) := ⟨_, rfl⟩
  obtain ⟨g5, e5⟩ : ∃ g5 : am_H, g5 = am_put g4 90 m.toInt.toNat (.int (Int32.ofInt (-1))) := ⟨_, rfl⟩
  have p1 : g1.1 = h.1 ∧ g1.2.2.1 = h.2.2.1 := by
    rw [e1]
    exact ⟨rfl, rfl⟩
  have w1 : am_wr h 86 m 0 (.int a) = some g1 := by
    rw [e1]
    exact wr h 86 a rfl rfl A86
  have r1 : ∀ j, g1.2.2.2 78 j = h.2.2.2 78 j := fun j => by
    rw [e1]
    exact ax_put_o (Or.inl (by decide)) rfl
  have O1 : am_isO g1 78 13 = true := by
    rw [e1]
    exact O
  have p2 : g2.1 = h.1 ∧ g2.2.2.1 = h.2.2.1 := by
    rw [e2]
    exact p1
  have w2 : am_wr g1 87 m 0 (.int b) = some g2 := by
    rw [e2]
    exact wr g1 87 b p1.1 p1.2 A87
  have r2 : ∀ j, g2.2.2.2 78 j = h.2.2.2 78 j := fun j => by
    rw [e2]
    exact ax_put_o (Or.inl (by decide)) (r1 j)
  have O2 : am_isO g2 78 13 = true := by
    rw [e2]
    exact O1
  have p3 : g3.1 = h.1 ∧ g3.2.2.1 = h.2.2.1 := by
    rw [e3]
    exact p2
  have w3 : am_wr g2 88 m 0 (.int c) = some g3 := by
    rw [e3]
    exact wr g2 88 c p2.1 p2.2 A88
  have r3 : ∀ j, g3.2.2.2 78 j = h.2.2.2 78 j := fun j => by
    rw [e3]
    exact ax_put_o (Or.inl (by decide)) (r2 j)
  have O3 : am_isO g3 78 13 = true := by
    rw [e3]
    exact O2
  have p4 : g4.1 = h.1 ∧ g4.2.2.1 = h.2.2.1 := by
    rw [e4]
    exact p3
  have w4 : am_wr g3 89 m 0 (.int e) = some g4 := by
    rw [e4]
    exact wr g3 89 e p3.1 p3.2 A89
  have r4 : ∀ j, g4.2.2.2 78 j = h.2.2.2 78 j := fun j => by
    rw [e4]
    exact ax_put_o (Or.inl (by decide)) (r3 j)
  have O4 : am_isO g4 78 13 = true := by
    rw [e4]
    exact O3
  have p5 : g5.1 = h.1 ∧ g5.2.2.1 = h.2.2.1 := by
    rw [e5]
    exact p4
  have w5 : am_wr g4 90 m 0 (.int (Int32.ofInt (-1))) = some g5 := by
    rw [e5]
    exact wr g4 90 (Int32.ofInt (-1)) p4.1 p4.2 A90
  have r5 : ∀ j, g5.2.2.2 78 j = h.2.2.2 78 j := fun j => by
    rw [e5]
    exact ax_put_o (Or.inl (by decide)) (r4 j)
  have O5 : am_isO g5 78 13 = true := by
    rw [e5]
    exact O4
  refine ⟨am_put g5 78 16 (.int (m + Int32.ofInt 1)), ?_, ax_put_s _ _ _, ax_put_o (Or.inl (by decide)) ?_, ax_put_o (Or.inl (by decide)) ?_, fun j hj => ⟨ax_put_o (Or.inl (by decide)) ?_, ax_put_o (Or.inl (by decide)) ?_⟩, ⟨ax_put_o (Or.inl (by decide)) ?_, ax_put_o (Or.inl (by decide)) ?_, ax_put_o (Or.inl (by decide)) ?_⟩, fun k j n1 n2 => ax_put_o (Or.inl n1) ?_⟩
  · refine am_ev.step (pc' := 1) rfl rfl ?_
    refine ax_call (z := 186) (p' := 4) (as := [_]) rfl (Or.inl ⟨_, rfl⟩) rfl rfl rfl rfl rfl rfl rfl rfl H1 rfl ?_
    refine ax_z_eq_N (p' := 7) rfl rfl (by decide : ¬ Int32.ofInt 1 = 0) ?_
    refine am_ev.step (pc' := 8) rfl rfl ?_
    refine am_ev.step (pc' := 9) rfl rfl ?_
    refine am_ev.step (pc' := 10) rfl rfl ?_
    refine am_ev.step (pc' := 13) rfl rfl ?_
    refine ax_call (z := 165) (p' := 16) (as := [_, _, _]) rfl (Or.inl ⟨_, rfl⟩) rfl rfl rfl rfl rfl rfl rfl rfl H2 rfl ?_
    refine ax_z_eq_N (p' := 19) rfl rfl (by decide : ¬ Int32.ofInt 1 = 0) ?_
    refine am_ev.step (pc' := 20) rfl rfl ?_
    refine am_ev.step (pc' := 21) rfl rfl ?_
    refine am_ev.step (pc' := 22) rfl rfl ?_
    refine am_ev.step (pc' := 25) rfl rfl ?_
    refine ax_call (z := 165) (p' := 28) (as := [_, _, _]) rfl (Or.inl ⟨_, rfl⟩) rfl rfl rfl rfl rfl rfl rfl rfl H3 rfl ?_
    refine ax_z_eq_N (p' := 31) rfl rfl (by decide : ¬ Int32.ofInt 1 = 0) ?_
    refine am_ev.step (pc' := 33) rfl rfl ?_
    refine am_ev.step (pc' := 34) rfl rfl ?_
    refine am_ev.step (pc' := 35) rfl rfl ?_
    refine am_ev.step (pc' := 38) rfl rfl ?_
    refine ax_call (z := 165) (p' := 41) (as := [_, _, _]) rfl (Or.inl ⟨_, rfl⟩) rfl rfl rfl rfl rfl rfl rfl rfl H4 rfl ?_
    refine ax_z_ne_T (p' := 47) rfl rfl (by decide : ¬ Int32.ofInt 1 = 0) ?_
    refine am_ev.step (pc' := 48) rfl rfl ?_
    refine ax_gf (p' := 51) rfl rfl O v ?_
    refine am_ev.step (pc' := 53) rfl rfl ?_
    refine ax_c_ne_T (p' := 59) rfl rfl ne ?_
    refine am_ev.step (pc' := 60) rfl rfl ?_
    refine ax_gf (p' := 63) rfl rfl O v17 ?_
    refine am_ev.step (pc' := 64) rfl rfl ?_
    refine ax_gf (p' := 67) rfl rfl O v ?_
    refine am_ev.step (pc' := 68) rfl rfl ?_
    refine ax_iastore (p' := 69) rfl rfl w1 ?_
    refine am_ev.step (pc' := 70) rfl rfl ?_
    refine ax_gf (p' := 73) rfl rfl O1 (Eq.trans (r1 18) v18) ?_
    refine am_ev.step (pc' := 74) rfl rfl ?_
    refine ax_gf (p' := 77) rfl rfl O1 (Eq.trans (r1 16) v) ?_
    refine am_ev.step (pc' := 78) rfl rfl ?_
    refine ax_iastore (p' := 79) rfl rfl w2 ?_
    refine am_ev.step (pc' := 80) rfl rfl ?_
    refine ax_gf (p' := 83) rfl rfl O2 (Eq.trans (r2 19) v19) ?_
    refine am_ev.step (pc' := 84) rfl rfl ?_
    refine ax_gf (p' := 87) rfl rfl O2 (Eq.trans (r2 16) v) ?_
    refine am_ev.step (pc' := 88) rfl rfl ?_
    refine ax_iastore (p' := 89) rfl rfl w3 ?_
    refine am_ev.step (pc' := 90) rfl rfl ?_
    refine ax_gf (p' := 93) rfl rfl O3 (Eq.trans (r3 20) v20) ?_
    refine am_ev.step (pc' := 94) rfl rfl ?_
    refine ax_gf (p' := 97) rfl rfl O3 (Eq.trans (r3 16) v) ?_
    refine am_ev.step (pc' := 99) rfl rfl ?_
    refine ax_iastore (p' := 100) rfl rfl w4 ?_
    refine am_ev.step (pc' := 101) rfl rfl ?_
    refine ax_gf (p' := 104) rfl rfl O4 (Eq.trans (r4 21) v21) ?_
    refine am_ev.step (pc' := 105) rfl rfl ?_
    refine ax_gf (p' := 108) rfl rfl O4 (Eq.trans (r4 16) v) ?_
    refine am_ev.step (pc' := 109) rfl rfl ?_
    refine ax_iastore (p' := 110) rfl rfl w5 ?_
    refine am_ev.step (pc' := 111) rfl rfl ?_
    refine am_ev.step (pc' := 112) rfl rfl ?_
    refine ax_gf (p' := 115) rfl rfl O5 (Eq.trans (r5 16) v) ?_
    refine am_ev.step (pc' := 116) rfl rfl ?_
    refine am_ev.step (pc' := 117) rfl rfl ?_
    refine ax_pf (p' := 120) rfl rfl O5 rfl ?_
    refine am_ev.step (pc' := 121) rfl rfl ?_
    refine ax_gf (p' := 124) rfl rfl O5 (ax_put_s _ _ _) ?_
    refine am_ev.step (pc' := 125) rfl rfl ?_
    refine am_ev.step (pc' := 126) rfl rfl ?_
    exact am_ev.reti rfl rfl rfl
  · rw [e5, e4, e3, e2, e1]
    exact ax_put_o (Or.inl (by decide)) (ax_put_o (Or.inl (by decide)) (ax_put_o (Or.inl (by decide)) (ax_put_o (Or.inl (by decide)) (ax_put_s _ _ _))))
  · rw [e5]
    exact ax_put_s _ _ _
  · rw [e5, e4, e3, e2, e1]
    exact ax_put_o (Or.inl (by decide)) (ax_put_o (Or.inl (by decide)) (ax_put_o (Or.inl (by decide)) (ax_put_o (Or.inl (by decide)) (ax_put_o (Or.inr hj) rfl))))
  · rw [e5, e4, e3, e2, e1]
    exact ax_put_o (Or.inr hj) (ax_put_o (Or.inl (by decide)) (ax_put_o (Or.inl (by decide)) (ax_put_o (Or.inl (by decide)) (ax_put_o (Or.inl (by decide)) rfl))))
  · rw [e5, e4, e3, e2]
    exact ax_put_o (Or.inl (by decide)) (ax_put_o (Or.inl (by decide)) (ax_put_o (Or.inl (by decide)) (ax_put_s _ _ _)))
  · rw [e5, e4, e3]
    exact ax_put_o (Or.inl (by decide)) (ax_put_o (Or.inl (by decide)) (ax_put_s _ _ _))
  · rw [e5, e4]
    exact ax_put_o (Or.inl (by decide)) (ax_put_s _ _ _)
  · rw [e5, e4, e3, e2, e1]
    exact ax_put_o (by omega) (ax_put_o (by omega) (ax_put_o (by omega) (ax_put_o (by omega) (ax_put_o (by omega) rfl))))
end POE
end
section
/-! TRANSLATED, on both sides -/
section TRA
variable {h : am_H} {d : Nat} {p a u : Int32}
def tr_ok (a u t : Int32) : Prop := (0 ≤ a.toInt ∧ a.toInt ≤ 19) ∧ (1 ≤ u.toInt ∧ u.toInt ≤ 99) ∧ ¬ a = t
theorem tr_41n (O : am_isO h 40 11 = true) (H : am_ev d 42 0 (am_ent [.ref 40, .int p] 2) [] h (some .null, h)) : am_ev (d + 1) 41 0 (am_ent [.ref 40, .int p, .int a, .int u] 5) [] h (some (ax_m (-2)), h) := by
  refine am_ev.step (pc' := 1) rfl rfl ?_
  refine am_ev.step (pc' := 2) rfl rfl ?_
  refine ax_call (z := 42) (p' := 5) (as := [_, _]) rfl (Or.inr (Or.inl ⟨_, rfl⟩)) rfl rfl rfl rfl rfl rfl O rfl H rfl ?_
  refine am_ev.step (pc' := 7) rfl rfl ?_
  refine am_ev.step (pc' := 9) rfl rfl ?_
  refine am_ev.step (pc' := 41) rfl rfl ?_
  refine am_ev.step (pc' := 43) rfl rfl ?_
  exact am_ev.reti rfl rfl rfl
theorem tr_41f {s : Nat} {t : Int32} (O : am_isO h 40 11 = true) (H : am_ev d 42 0 (am_ent [.ref 40, .int p] 2) [] h (some (.ref s), h)) (Os : am_isO h s 6 = true) (v : h.2.2.2 s 0 = .int t) (q : ¬ tr_ok a u t) : am_ev (d + 1) 41 0 (am_ent [.ref 40, .int p, .int a, .int u] 5) [] h (some (ax_m (-2)), h) := by
  by_cases q1 : 0 ≤ a.toInt ∧ a.toInt ≤ 19
  · have H2 := (iw_39 (h := h) (d := d) (u := a) (v := (Int8.ofInt 19).toInt32)).1 (by rw [show (Int8.ofInt 19).toInt32.toInt = 19 by decide]; exact q1)
    by_cases c1 : u < Int32.ofInt 1
    · refine am_ev.step (pc' := 1) rfl rfl ?_
      refine am_ev.step (pc' := 2) rfl rfl ?_
      refine ax_call (z := 42) (p' := 5) (as := [_, _]) rfl (Or.inr (Or.inl ⟨_, rfl⟩)) rfl rfl rfl rfl rfl rfl O rfl H rfl ?_
      refine am_ev.step (pc' := 7) rfl rfl ?_
      refine am_ev.step (pc' := 9) rfl rfl ?_
      refine am_ev.step (pc' := 12) rfl rfl ?_
      refine am_ev.step (pc' := 13) rfl rfl ?_
      refine am_ev.step (pc' := 15) rfl rfl ?_
      refine ax_call (z := 39) (p' := 18) (as := [_, _]) rfl (Or.inl ⟨_, rfl⟩) rfl rfl rfl rfl rfl rfl rfl rfl H2 rfl ?_
      refine ax_z_eq_N (p' := 21) rfl rfl (by decide : ¬ Int32.ofInt 1 = 0) ?_
      refine am_ev.step (pc' := 22) rfl rfl ?_
      refine am_ev.step (pc' := 23) rfl rfl ?_
      refine ax_c_lt_T (p' := 41) rfl rfl c1 ?_
      refine am_ev.step (pc' := 43) rfl rfl ?_
      exact am_ev.reti rfl rfl rfl
    · by_cases c2 : (Int8.ofInt 99).toInt32 < u
      · refine am_ev.step (pc' := 1) rfl rfl ?_
        refine am_ev.step (pc' := 2) rfl rfl ?_
        refine ax_call (z := 42) (p' := 5) (as := [_, _]) rfl (Or.inr (Or.inl ⟨_, rfl⟩)) rfl rfl rfl rfl rfl rfl O rfl H rfl ?_
        refine am_ev.step (pc' := 7) rfl rfl ?_
        refine am_ev.step (pc' := 9) rfl rfl ?_
        refine am_ev.step (pc' := 12) rfl rfl ?_
        refine am_ev.step (pc' := 13) rfl rfl ?_
        refine am_ev.step (pc' := 15) rfl rfl ?_
        refine ax_call (z := 39) (p' := 18) (as := [_, _]) rfl (Or.inl ⟨_, rfl⟩) rfl rfl rfl rfl rfl rfl rfl rfl H2 rfl ?_
        refine ax_z_eq_N (p' := 21) rfl rfl (by decide : ¬ Int32.ofInt 1 = 0) ?_
        refine am_ev.step (pc' := 22) rfl rfl ?_
        refine am_ev.step (pc' := 23) rfl rfl ?_
        refine ax_c_lt_N (p' := 26) rfl rfl c1 ?_
        refine am_ev.step (pc' := 27) rfl rfl ?_
        refine am_ev.step (pc' := 29) rfl rfl ?_
        refine ax_c_gt_T (p' := 41) rfl rfl c2 ?_
        refine am_ev.step (pc' := 43) rfl rfl ?_
        exact am_ev.reti rfl rfl rfl
      · have c3 : a = t := by
          apply Classical.byContradiction
          intro c3
          have k1 := mt Int32.lt_iff_toInt_lt.2 c1
          have k2 := mt Int32.lt_iff_toInt_lt.2 c2
          rw [show (Int32.ofInt 1).toInt = 1 by decide] at k1
          rw [show (Int8.ofInt 99).toInt32.toInt = 99 by decide] at k2
          exact q ⟨q1, by omega, c3⟩
        refine am_ev.step (pc' := 1) rfl rfl ?_
        refine am_ev.step (pc' := 2) rfl rfl ?_
        refine ax_call (z := 42) (p' := 5) (as := [_, _]) rfl (Or.inr (Or.inl ⟨_, rfl⟩)) rfl rfl rfl rfl rfl rfl O rfl H rfl ?_
        refine am_ev.step (pc' := 7) rfl rfl ?_
        refine am_ev.step (pc' := 9) rfl rfl ?_
        refine am_ev.step (pc' := 12) rfl rfl ?_
        refine am_ev.step (pc' := 13) rfl rfl ?_
        refine am_ev.step (pc' := 15) rfl rfl ?_
        refine ax_call (z := 39) (p' := 18) (as := [_, _]) rfl (Or.inl ⟨_, rfl⟩) rfl rfl rfl rfl rfl rfl rfl rfl H2 rfl ?_
        refine ax_z_eq_N (p' := 21) rfl rfl (by decide : ¬ Int32.ofInt 1 = 0) ?_
        refine am_ev.step (pc' := 22) rfl rfl ?_
        refine am_ev.step (pc' := 23) rfl rfl ?_
        refine ax_c_lt_N (p' := 26) rfl rfl c1 ?_
        refine am_ev.step (pc' := 27) rfl rfl ?_
        refine am_ev.step (pc' := 29) rfl rfl ?_
        refine ax_c_gt_N (p' := 32) rfl rfl c2 ?_
        refine am_ev.step (pc' := 33) rfl rfl ?_
        refine am_ev.step (pc' := 35) rfl rfl ?_
        refine ax_gf (p' := 38) rfl rfl Os v ?_
        refine ax_c_ne_N (p' := 41) rfl rfl c3 ?_
        refine am_ev.step (pc' := 43) rfl rfl ?_
        exact am_ev.reti rfl rfl rfl
  · have H2 := (iw_39 (h := h) (d := d) (u := a) (v := (Int8.ofInt 19).toInt32)).2 (by rw [show (Int8.ofInt 19).toInt32.toInt = 19 by decide]; exact q1)
    refine am_ev.step (pc' := 1) rfl rfl ?_
    refine am_ev.step (pc' := 2) rfl rfl ?_
    refine ax_call (z := 42) (p' := 5) (as := [_, _]) rfl (Or.inr (Or.inl ⟨_, rfl⟩)) rfl rfl rfl rfl rfl rfl O rfl H rfl ?_
    refine am_ev.step (pc' := 7) rfl rfl ?_
    refine am_ev.step (pc' := 9) rfl rfl ?_
    refine am_ev.step (pc' := 12) rfl rfl ?_
    refine am_ev.step (pc' := 13) rfl rfl ?_
    refine am_ev.step (pc' := 15) rfl rfl ?_
    refine ax_call (z := 39) (p' := 18) (as := [_, _]) rfl (Or.inl ⟨_, rfl⟩) rfl rfl rfl rfl rfl rfl rfl rfl H2 rfl ?_
    refine ax_z_eq_T (p' := 41) rfl rfl (by decide : Int32.ofInt 0 = 0) ?_
    refine am_ev.step (pc' := 43) rfl rfl ?_
    exact am_ev.reti rfl rfl rfl
theorem tr_41s {s : Nat} {t w : Int32} (O : am_isO h 40 11 = true) (H : am_ev d 42 0 (am_ent [.ref 40, .int p] 2) [] h (some (.ref s), h)) (Os : am_isO h s 6 = true) (v : h.2.2.2 s 0 = .int t) (v4 : h.2.2.2 s 4 = .int w) (q : tr_ok a u t) (qw : ¬ w = Int32.ofInt (-1)) : am_ev (d + 1) 41 0 (am_ent [.ref 40, .int p, .int a, .int u] 5) [] h (some (ax_m (-4)), h) := by
  have H2 := (iw_39 (h := h) (d := d) (u := a) (v := (Int8.ofInt 19).toInt32)).1 (by rw [show (Int8.ofInt 19).toInt32.toInt = 19 by decide]; exact q.1)
  have c1 : ¬ u < Int32.ofInt 1 := fun z => by
    have z := Int32.lt_iff_toInt_lt.1 z
    rw [show (Int32.ofInt 1).toInt = 1 by decide] at z
    have := q.2.1
    omega
  have c2 : ¬ (Int8.ofInt 99).toInt32 < u := fun z => by
    have z := Int32.lt_iff_toInt_lt.1 z
    rw [show (Int8.ofInt 99).toInt32.toInt = 99 by decide] at z
    have := q.2.1
    omega
  refine am_ev.step (pc' := 1) rfl rfl ?_
  refine am_ev.step (pc' := 2) rfl rfl ?_
  refine ax_call (z := 42) (p' := 5) (as := [_, _]) rfl (Or.inr (Or.inl ⟨_, rfl⟩)) rfl rfl rfl rfl rfl rfl O rfl H rfl ?_
  refine am_ev.step (pc' := 7) rfl rfl ?_
  refine am_ev.step (pc' := 9) rfl rfl ?_
  refine am_ev.step (pc' := 12) rfl rfl ?_
  refine am_ev.step (pc' := 13) rfl rfl ?_
  refine am_ev.step (pc' := 15) rfl rfl ?_
  refine ax_call (z := 39) (p' := 18) (as := [_, _]) rfl (Or.inl ⟨_, rfl⟩) rfl rfl rfl rfl rfl rfl rfl rfl H2 rfl ?_
  refine ax_z_eq_N (p' := 21) rfl rfl (by decide : ¬ Int32.ofInt 1 = 0) ?_
  refine am_ev.step (pc' := 22) rfl rfl ?_
  refine am_ev.step (pc' := 23) rfl rfl ?_
  refine ax_c_lt_N (p' := 26) rfl rfl c1 ?_
  refine am_ev.step (pc' := 27) rfl rfl ?_
  refine am_ev.step (pc' := 29) rfl rfl ?_
  refine ax_c_gt_N (p' := 32) rfl rfl c2 ?_
  refine am_ev.step (pc' := 33) rfl rfl ?_
  refine am_ev.step (pc' := 35) rfl rfl ?_
  refine ax_gf (p' := 38) rfl rfl Os v ?_
  refine ax_c_ne_T (p' := 44) rfl rfl q.2.2 ?_
  refine am_ev.step (pc' := 46) rfl rfl ?_
  refine ax_gf (p' := 49) rfl rfl Os v4 ?_
  refine am_ev.step (pc' := 50) rfl rfl ?_
  refine ax_c_eq_N (p' := 53) rfl rfl qw ?_
  refine am_ev.step (pc' := 55) rfl rfl ?_
  exact am_ev.reti rfl rfl rfl
theorem tr_41d {s : Nat} {t w : Int32} (O : am_isO h 40 11 = true) (H : am_ev d 42 0 (am_ent [.ref 40, .int p] 2) [] h (some (.ref s), h)) (Os : am_isO h s 6 = true) (v : h.2.2.2 s 0 = .int t) (v4 : h.2.2.2 s 4 = .int w) (q : tr_ok a u t) (qw : w = Int32.ofInt (-1)) : am_ev (d + 1) 41 0 (am_ent [.ref 40, .int p, .int a, .int u] 5) [] h (some (.int (Int32.ofInt 1)), am_put (am_put h s 4 (.int a)) s 5 (.int u)) := by
  have H2 := (iw_39 (h := h) (d := d) (u := a) (v := (Int8.ofInt 19).toInt32)).1 (by rw [show (Int8.ofInt 19).toInt32.toInt = 19 by decide]; exact q.1)
  have c1 : ¬ u < Int32.ofInt 1 := fun z => by
    have z := Int32.lt_iff_toInt_lt.1 z
    rw [show (Int32.ofInt 1).toInt = 1 by decide] at z
    have := q.2.1
    omega
  have c2 : ¬ (Int8.ofInt 99).toInt32 < u := fun z => by
    have z := Int32.lt_iff_toInt_lt.1 z
    rw [show (Int8.ofInt 99).toInt32.toInt = 99 by decide] at z
    have := q.2.1
    omega
  refine am_ev.step (pc' := 1) rfl rfl ?_
  refine am_ev.step (pc' := 2) rfl rfl ?_
  refine ax_call (z := 42) (p' := 5) (as := [_, _]) rfl (Or.inr (Or.inl ⟨_, rfl⟩)) rfl rfl rfl rfl rfl rfl O rfl H rfl ?_
  refine am_ev.step (pc' := 7) rfl rfl ?_
  refine am_ev.step (pc' := 9) rfl rfl ?_
  refine am_ev.step (pc' := 12) rfl rfl ?_
  refine am_ev.step (pc' := 13) rfl rfl ?_
  refine am_ev.step (pc' := 15) rfl rfl ?_
  refine ax_call (z := 39) (p' := 18) (as := [_, _]) rfl (Or.inl ⟨_, rfl⟩) rfl rfl rfl rfl rfl rfl rfl rfl H2 rfl ?_
  refine ax_z_eq_N (p' := 21) rfl rfl (by decide : ¬ Int32.ofInt 1 = 0) ?_
  refine am_ev.step (pc' := 22) rfl rfl ?_
  refine am_ev.step (pc' := 23) rfl rfl ?_
  refine ax_c_lt_N (p' := 26) rfl rfl c1 ?_
  refine am_ev.step (pc' := 27) rfl rfl ?_
  refine am_ev.step (pc' := 29) rfl rfl ?_
  refine ax_c_gt_N (p' := 32) rfl rfl c2 ?_
  refine am_ev.step (pc' := 33) rfl rfl ?_
  refine am_ev.step (pc' := 35) rfl rfl ?_
  refine ax_gf (p' := 38) rfl rfl Os v ?_
  refine ax_c_ne_T (p' := 44) rfl rfl q.2.2 ?_
  refine am_ev.step (pc' := 46) rfl rfl ?_
  refine ax_gf (p' := 49) rfl rfl Os v4 ?_
  refine am_ev.step (pc' := 50) rfl rfl ?_
  refine ax_c_eq_T (p' := 56) rfl rfl qw ?_
  refine am_ev.step (pc' := 58) rfl rfl ?_
  refine am_ev.step (pc' := 59) rfl rfl ?_
  refine ax_pf (p' := 62) rfl rfl Os rfl ?_
  refine am_ev.step (pc' := 64) rfl rfl ?_
  refine am_ev.step (pc' := 65) rfl rfl ?_
  refine ax_pf (p' := 68) rfl rfl Os rfl ?_
  refine am_ev.step (pc' := 69) rfl rfl ?_
  exact am_ev.reti rfl rfl rfl
theorem tr_187n (O : am_isO h 78 13 = true) (H : am_ev (d + 1) 188 0 (am_ent [.ref 78, .int p] 2) [] h (some (.int (Int32.ofInt 0)), h)) : am_ev (d + 2) 187 0 (am_ent [.ref 78, .int p, .int a, .int u] 4) [] h (some (ax_m (-2)), h) := by
  refine am_ev.step (pc' := 1) rfl rfl ?_
  refine am_ev.step (pc' := 2) rfl rfl ?_
  refine ax_call (z := 188) (p' := 5) (as := [_, _]) rfl (Or.inr (Or.inl ⟨_, rfl⟩)) rfl rfl rfl rfl rfl rfl O rfl H rfl ?_
  refine ax_z_eq_T (p' := 37) rfl rfl (by decide : Int32.ofInt 0 = 0) ?_
  refine am_ev.step (pc' := 39) rfl rfl ?_
  exact am_ev.reti rfl rfl rfl
theorem tr_187f {t : Int32} (O : am_isO h 78 13 = true) (H : am_ev (d + 1) 188 0 (am_ent [.ref 78, .int p] 2) [] h (some (.int (Int32.ofInt 1)), h)) (v17 : h.2.2.2 78 17 = .ref 86) (rd : am_rd h 86 p (fun c => Nat.beq c 0) = some (.int t)) (q : ¬ tr_ok a u t) : am_ev (d + 2) 187 0 (am_ent [.ref 78, .int p, .int a, .int u] 4) [] h (some (ax_m (-2)), h) := by
  by_cases q1 : 0 ≤ a.toInt ∧ a.toInt ≤ 19
  · have H2 := (ip_186 (h := h) (d := d) (a := a)).1 q1
    by_cases q2 : 1 ≤ u.toInt ∧ u.toInt ≤ 99
    · have H3 := (in_n (h := h) (d := d + 1) (u := u) (l := 1) (g := 99) (by decide) (by decide)).1 q2
      have c3 : a = t := Classical.byContradiction fun c3 => q ⟨q1, q2, c3⟩
      refine am_ev.step (pc' := 1) rfl rfl ?_
      refine am_ev.step (pc' := 2) rfl rfl ?_
      refine ax_call (z := 188) (p' := 5) (as := [_, _]) rfl (Or.inr (Or.inl ⟨_, rfl⟩)) rfl rfl rfl rfl rfl rfl O rfl H rfl ?_
      refine ax_z_eq_N (p' := 8) rfl rfl (by decide : ¬ Int32.ofInt 1 = 0) ?_
      refine am_ev.step (pc' := 9) rfl rfl ?_
      refine ax_call (z := 186) (p' := 12) (as := [_]) rfl (Or.inl ⟨_, rfl⟩) rfl rfl rfl rfl rfl rfl rfl rfl H2 rfl ?_
      refine ax_z_eq_N (p' := 15) rfl rfl (by decide : ¬ Int32.ofInt 1 = 0) ?_
      refine am_ev.step (pc' := 16) rfl rfl ?_
      refine am_ev.step (pc' := 17) rfl rfl ?_
      refine am_ev.step (pc' := 18) rfl rfl ?_
      refine am_ev.step (pc' := 21) rfl rfl ?_
      refine ax_call (z := 165) (p' := 24) (as := [_, _, _]) rfl (Or.inl ⟨_, rfl⟩) rfl rfl rfl rfl rfl rfl rfl rfl H3 rfl ?_
      refine ax_z_eq_N (p' := 27) rfl rfl (by decide : ¬ Int32.ofInt 1 = 0) ?_
      refine am_ev.step (pc' := 28) rfl rfl ?_
      refine am_ev.step (pc' := 29) rfl rfl ?_
      refine ax_gf (p' := 32) rfl rfl O v17 ?_
      refine am_ev.step (pc' := 33) rfl rfl ?_
      refine ax_iaload (p' := 34) rfl rfl rd ?_
      refine ax_c_ne_N (p' := 37) rfl rfl c3 ?_
      refine am_ev.step (pc' := 39) rfl rfl ?_
      exact am_ev.reti rfl rfl rfl
    · have H3 := (in_n (h := h) (d := d + 1) (u := u) (l := 1) (g := 99) (by decide) (by decide)).2 q2
      refine am_ev.step (pc' := 1) rfl rfl ?_
      refine am_ev.step (pc' := 2) rfl rfl ?_
      refine ax_call (z := 188) (p' := 5) (as := [_, _]) rfl (Or.inr (Or.inl ⟨_, rfl⟩)) rfl rfl rfl rfl rfl rfl O rfl H rfl ?_
      refine ax_z_eq_N (p' := 8) rfl rfl (by decide : ¬ Int32.ofInt 1 = 0) ?_
      refine am_ev.step (pc' := 9) rfl rfl ?_
      refine ax_call (z := 186) (p' := 12) (as := [_]) rfl (Or.inl ⟨_, rfl⟩) rfl rfl rfl rfl rfl rfl rfl rfl H2 rfl ?_
      refine ax_z_eq_N (p' := 15) rfl rfl (by decide : ¬ Int32.ofInt 1 = 0) ?_
      refine am_ev.step (pc' := 16) rfl rfl ?_
      refine am_ev.step (pc' := 17) rfl rfl ?_
      refine am_ev.step (pc' := 18) rfl rfl ?_
      refine am_ev.step (pc' := 21) rfl rfl ?_
      refine ax_call (z := 165) (p' := 24) (as := [_, _, _]) rfl (Or.inl ⟨_, rfl⟩) rfl rfl rfl rfl rfl rfl rfl rfl H3 rfl ?_
      refine ax_z_eq_T (p' := 37) rfl rfl (by decide : Int32.ofInt 0 = 0) ?_
      refine am_ev.step (pc' := 39) rfl rfl ?_
      exact am_ev.reti rfl rfl rfl
  · have H2 := (ip_186 (h := h) (d := d) (a := a)).2 q1
    refine am_ev.step (pc' := 1) rfl rfl ?_
    refine am_ev.step (pc' := 2) rfl rfl ?_
    refine ax_call (z := 188) (p' := 5) (as := [_, _]) rfl (Or.inr (Or.inl ⟨_, rfl⟩)) rfl rfl rfl rfl rfl rfl O rfl H rfl ?_
    refine ax_z_eq_N (p' := 8) rfl rfl (by decide : ¬ Int32.ofInt 1 = 0) ?_
    refine am_ev.step (pc' := 9) rfl rfl ?_
    refine ax_call (z := 186) (p' := 12) (as := [_]) rfl (Or.inl ⟨_, rfl⟩) rfl rfl rfl rfl rfl rfl rfl rfl H2 rfl ?_
    refine ax_z_eq_T (p' := 37) rfl rfl (by decide : Int32.ofInt 0 = 0) ?_
    refine am_ev.step (pc' := 39) rfl rfl ?_
    exact am_ev.reti rfl rfl rfl
theorem tr_187s {t w : Int32} (O : am_isO h 78 13 = true) (H : am_ev (d + 1) 188 0 (am_ent [.ref 78, .int p] 2) [] h (some (.int (Int32.ofInt 1)), h)) (v17 : h.2.2.2 78 17 = .ref 86) (v21 : h.2.2.2 78 21 = .ref 90) (rd : am_rd h 86 p (fun c => Nat.beq c 0) = some (.int t)) (rd2 : am_rd h 90 p (fun c => Nat.beq c 0) = some (.int w)) (q : tr_ok a u t) (qw : ¬ w = Int32.ofInt (-1)) : am_ev (d + 2) 187 0 (am_ent [.ref 78, .int p, .int a, .int u] 4) [] h (some (ax_m (-4)), h) := by
  have H2 := (ip_186 (h := h) (d := d) (a := a)).1 q.1
  have H3 := (in_n (h := h) (d := d + 1) (u := u) (l := 1) (g := 99) (by decide) (by decide)).1 q.2.1
  refine am_ev.step (pc' := 1) rfl rfl ?_
  refine am_ev.step (pc' := 2) rfl rfl ?_
  refine ax_call (z := 188) (p' := 5) (as := [_, _]) rfl (Or.inr (Or.inl ⟨_, rfl⟩)) rfl rfl rfl rfl rfl rfl O rfl H rfl ?_
  refine ax_z_eq_N (p' := 8) rfl rfl (by decide : ¬ Int32.ofInt 1 = 0) ?_
  refine am_ev.step (pc' := 9) rfl rfl ?_
  refine ax_call (z := 186) (p' := 12) (as := [_]) rfl (Or.inl ⟨_, rfl⟩) rfl rfl rfl rfl rfl rfl rfl rfl H2 rfl ?_
  refine ax_z_eq_N (p' := 15) rfl rfl (by decide : ¬ Int32.ofInt 1 = 0) ?_
  refine am_ev.step (pc' := 16) rfl rfl ?_
  refine am_ev.step (pc' := 17) rfl rfl ?_
  refine am_ev.step (pc' := 18) rfl rfl ?_
  refine am_ev.step (pc' := 21) rfl rfl ?_
  refine ax_call (z := 165) (p' := 24) (as := [_, _, _]) rfl (Or.inl ⟨_, rfl⟩) rfl rfl rfl rfl rfl rfl rfl rfl H3 rfl ?_
  refine ax_z_eq_N (p' := 27) rfl rfl (by decide : ¬ Int32.ofInt 1 = 0) ?_
  refine am_ev.step (pc' := 28) rfl rfl ?_
  refine am_ev.step (pc' := 29) rfl rfl ?_
  refine ax_gf (p' := 32) rfl rfl O v17 ?_
  refine am_ev.step (pc' := 33) rfl rfl ?_
  refine ax_iaload (p' := 34) rfl rfl rd ?_
  refine ax_c_ne_T (p' := 40) rfl rfl q.2.2 ?_
  refine am_ev.step (pc' := 41) rfl rfl ?_
  refine ax_gf (p' := 44) rfl rfl O v21 ?_
  refine am_ev.step (pc' := 45) rfl rfl ?_
  refine ax_iaload (p' := 46) rfl rfl rd2 ?_
  refine am_ev.step (pc' := 47) rfl rfl ?_
  refine ax_c_eq_N (p' := 50) rfl rfl qw ?_
  refine am_ev.step (pc' := 52) rfl rfl ?_
  exact am_ev.reti rfl rfl rfl
theorem tr_187d {t w : Int32} (O : am_isO h 78 13 = true) (H : am_ev (d + 1) 188 0 (am_ent [.ref 78, .int p] 2) [] h (some (.int (Int32.ofInt 1)), h)) (v17 : h.2.2.2 78 17 = .ref 86) (v21 : h.2.2.2 78 21 = .ref 90) (v22 : h.2.2.2 78 22 = .ref 91) (rd : am_rd h 86 p (fun c => Nat.beq c 0) = some (.int t)) (rd2 : am_rd h 90 p (fun c => Nat.beq c 0) = some (.int w)) (q : tr_ok a u t) (qw : w = Int32.ofInt (-1)) (w1 : am_wr h 90 p 0 (.int a) = some (am_put h 90 p.toInt.toNat (.int a))) (w2 : am_wr (am_put h 90 p.toInt.toNat (.int a)) 91 p 0 (.int u) = some (am_put (am_put h 90 p.toInt.toNat (.int a)) 91 p.toInt.toNat (.int u))) : am_ev (d + 2) 187 0 (am_ent [.ref 78, .int p, .int a, .int u] 4) [] h (some (.int (Int32.ofInt 1)), am_put (am_put h 90 p.toInt.toNat (.int a)) 91 p.toInt.toNat (.int u)) := by
  have H2 := (ip_186 (h := h) (d := d) (a := a)).1 q.1
  have H3 := (in_n (h := h) (d := d + 1) (u := u) (l := 1) (g := 99) (by decide) (by decide)).1 q.2.1
  refine am_ev.step (pc' := 1) rfl rfl ?_
  refine am_ev.step (pc' := 2) rfl rfl ?_
  refine ax_call (z := 188) (p' := 5) (as := [_, _]) rfl (Or.inr (Or.inl ⟨_, rfl⟩)) rfl rfl rfl rfl rfl rfl O rfl H rfl ?_
  refine ax_z_eq_N (p' := 8) rfl rfl (by decide : ¬ Int32.ofInt 1 = 0) ?_
  refine am_ev.step (pc' := 9) rfl rfl ?_
  refine ax_call (z := 186) (p' := 12) (as := [_]) rfl (Or.inl ⟨_, rfl⟩) rfl rfl rfl rfl rfl rfl rfl rfl H2 rfl ?_
  refine ax_z_eq_N (p' := 15) rfl rfl (by decide : ¬ Int32.ofInt 1 = 0) ?_
  refine am_ev.step (pc' := 16) rfl rfl ?_
  refine am_ev.step (pc' := 17) rfl rfl ?_
  refine am_ev.step (pc' := 18) rfl rfl ?_
  refine am_ev.step (pc' := 21) rfl rfl ?_
  refine ax_call (z := 165) (p' := 24) (as := [_, _, _]) rfl (Or.inl ⟨_, rfl⟩) rfl rfl rfl rfl rfl rfl rfl rfl H3 rfl ?_
  refine ax_z_eq_N (p' := 27) rfl rfl (by decide : ¬ Int32.ofInt 1 = 0) ?_
  refine am_ev.step (pc' := 28) rfl rfl ?_
  refine am_ev.step (pc' := 29) rfl rfl ?_
  refine ax_gf (p' := 32) rfl rfl O v17 ?_
  refine am_ev.step (pc' := 33) rfl rfl ?_
  refine ax_iaload (p' := 34) rfl rfl rd ?_
  refine ax_c_ne_T (p' := 40) rfl rfl q.2.2 ?_
  refine am_ev.step (pc' := 41) rfl rfl ?_
  refine ax_gf (p' := 44) rfl rfl O v21 ?_
  refine am_ev.step (pc' := 45) rfl rfl ?_
  refine ax_iaload (p' := 46) rfl rfl rd2 ?_
  refine am_ev.step (pc' := 47) rfl rfl ?_
  refine ax_c_eq_T (p' := 53) rfl rfl qw ?_
  refine am_ev.step (pc' := 54) rfl rfl ?_
  refine ax_gf (p' := 57) rfl rfl O v21 ?_
  refine am_ev.step (pc' := 58) rfl rfl ?_
  refine am_ev.step (pc' := 59) rfl rfl ?_
  refine ax_iastore (p' := 60) rfl rfl w1 ?_
  refine am_ev.step (pc' := 61) rfl rfl ?_
  refine ax_gf (p' := 64) rfl rfl O (ax_put_o (Or.inl (by decide)) v22) ?_
  refine am_ev.step (pc' := 65) rfl rfl ?_
  refine am_ev.step (pc' := 66) rfl rfl ?_
  refine ax_iastore (p' := 67) rfl rfl w2 ?_
  refine am_ev.step (pc' := 68) rfl rfl ?_
  exact am_ev.reti rfl rfl rfl
end TRA
end
section
/-! POEMS AND CANDIDATES: what holds between both sides -/
def rp_P (h : am_H) : Prop := ∃ m : Int32, h.2.2.2 40 8 = .int m ∧ h.2.2.2 78 16 = .int m ∧ (∀ p : Nat, (p : Int) < m.toInt → ∃ (s : Nat) (t w : Int32), h.2.2.2 73 p = .ref s ∧ h.2.2.2 s 0 = .int t ∧ h.2.2.2 86 p = .int t ∧ h.2.2.2 s 4 = .int w ∧ h.2.2.2 90 p = .int w) ∧ (∀ p q : Nat, p < q → (q : Int) < m.toInt → h.2.2.2 73 p ≠ h.2.2.2 73 q)
def rp_C (h : am_H) : Prop := ∃ (n : Int32) (ν : Nat → Int32), h.2.2.2 40 13 = .int n ∧ h.2.2.2 78 53 = .int n ∧ ∀ c : Nat, (c : Int) < n.toInt → (∃ s, h.2.2.2 74 c = .ref s ∧ h.2.2.2 s 0 = .int (ν c)) ∧ h.2.2.2 117 c = .int (ν c)
def rp_Pm (m : cq_W) : Bool := lw_nF m 40 8 && lw_nF m 78 16 && lw_nA m 73 && lw_nA m 86 && lw_nA m 90 && lw_nO m 6 0 && lw_nO m 6 4
def rp_Cm (m : cq_W) : Bool := lw_nF m 40 13 && lw_nF m 78 53 && lw_nA m 74 && lw_nA m 117 && lw_nO m 1 0
/-- poems, all of them: an object's numbers and the other side's rows; the count of editions too -/
def rQ1 (h : am_H) (p s : Nat) : Prop := h.2.2.2 73 p = .ref s ∧ ∀ j, j ≤ 6 → h.2.2.2 s j = h.2.2.2 (86 + j) p
def rQ (h : am_H) : Prop := h.2.2.2 56 0 = .int (Int32.ofInt 0) ∧ ∃ m : Int32, h.2.2.2 40 8 = .int m ∧ h.2.2.2 78 16 = .int m ∧ (∀ p : Nat, (p : Int) < m.toInt → ∃ s, rQ1 h p s) ∧ ∀ p : Nat, m.toInt ≤ p → p < 40 → h.2.2.2 91 p = .int (Int32.ofInt 0) ∧ h.2.2.2 92 p = .int (Int32.ofInt 0)
def rQ_m (m : cq_W) : Bool := lw_nA m 56 && lw_nF m 40 8 && lw_nF m 78 16 && lw_nA m 73 && (List.range 7).all (fun j => lw_nA m (86 + j) && lw_nO m 6 j)
section RPF
variable {h h2 : am_H} {m : cq_W}
theorem rp_obj (I : cq_Inv none h) {p s : Nat} (hp : p < 40) (e : h.2.2.2 73 p = .ref s) : cq_kOk h s (0, 6, 0) := by
  have t := ax_ty I (c := 73) (j := p) (t := (5, 0, 0, 6, 0, 0)) (by
    rw [show Nat.blt p (cq_fix 73).2.2 = true from Nat.ble_eq_true_of_le hp]
    decide +kernel) (by
    unfold cq_ty
    rw [show cq_isA 73 = true by decide +kernel, show ((Nat.beq 73 81 || Nat.beq 73 83) && Nat.beq p 1) = false from rfl]
    show cq_ar 73 = _
    decide +kernel)
  rw [e] at t
  rcases t with t | ⟨a, t, k⟩
  · cases t
  · cases t
    exact k
theorem rp_cob (I : cq_Inv none h) {c s : Nat} (hc : c < 14) (e : h.2.2.2 74 c = .ref s) : cq_kOk h s (0, 1, 0) := by
  have t := ax_ty I (c := 74) (j := c) (t := (11, 0, 0, 1, 40, 13)) (by
    rw [show Nat.blt c (cq_fix 74).2.2 = true from Nat.ble_eq_true_of_le hc]
    decide +kernel) (by
    unfold cq_ty
    rw [show cq_isA 74 = true by decide +kernel, show ((Nat.beq 74 81 || Nat.beq 74 83) && Nat.beq c 1) = false from rfl]
    show cq_ar 74 = _
    decide +kernel)
  rw [e] at t
  rcases t with ⟨t, _⟩ | ⟨a, t, k⟩
  · cases t
  · cases t
    exact k
theorem rp_bm (I : cq_Inv none h) {x : Int32} (e : h.2.2.2 40 8 = .int x) : 0 ≤ x.toInt ∧ x.toInt ≤ 40 := by
  obtain ⟨y, ey, a, b⟩ := ax_in I (c := 40) (j := 8) (l := 0) (u := 40) (by decide +kernel) (by decide +kernel)
  rw [e] at ey
  cases ey
  exact ⟨a, b⟩
theorem rp_bn (I : cq_Inv none h) {x : Int32} (e : h.2.2.2 40 13 = .int x) : 0 ≤ x.toInt ∧ x.toInt ≤ 14 := by
  obtain ⟨y, ey, a, b⟩ := ax_in I (c := 40) (j := 13) (l := 0) (u := 14) (by decide +kernel) (by decide +kernel)
  rw [e] at ey
  cases ey
  exact ⟨a, b⟩
theorem rp_Pfr (I : cq_Inv none h) (F : cq_Fr m h h2) (q : rp_Pm m = true) (P : rp_P h) : rp_P h2 := by
  have b1 := (Bool.and_eq_true _ _ ▸ q)
  have b2 := (Bool.and_eq_true _ _ ▸ b1.1)
  have b3 := (Bool.and_eq_true _ _ ▸ b2.1)
  have b4 := (Bool.and_eq_true _ _ ▸ b3.1)
  have b5 := (Bool.and_eq_true _ _ ▸ b4.1)
  have b6 := (Bool.and_eq_true _ _ ▸ b5.1)
  obtain ⟨x, e1, e2, PP, PD⟩ := P
  have bx := rp_bm I e1
  have f73 := lw_frA F I.lo (c := 73) (by decide) b5.2
  refine ⟨x, by rw [lw_frF F I.lo (by decide) b6.1, e1], by rw [lw_frF F I.lo (by decide) b6.2, e2], fun p hp => ?_, fun p q h1 h2 => by rw [f73, f73]; exact PD p q h1 h2⟩
  obtain ⟨s, t, w, k1, k2, k3, k4, k5⟩ := PP p hp
  obtain ⟨o1, o2, o3⟩ := rp_obj I (p := p) (by omega) k1
  exact ⟨s, t, w, by rw [f73, k1], by rw [lw_frO F o1 o2 o3 b2.2, k2], by rw [lw_frA F I.lo (by decide) b4.2, k3], by rw [lw_frO F o1 o2 o3 b1.2, k4], by rw [lw_frA F I.lo (by decide) b3.2, k5]⟩
theorem rQ_fr (I : cq_Inv none h) (F : cq_Fr m h h2) (q : rQ_m m = true) (P : rQ h) : rQ h2 := by
  have b1 := (Bool.and_eq_true _ _ ▸ q)
  have b2 := (Bool.and_eq_true _ _ ▸ b1.1)
  have b3 := (Bool.and_eq_true _ _ ▸ b2.1)
  have b4 := (Bool.and_eq_true _ _ ▸ b3.1)
  obtain ⟨z, x, e1, e2, PP, PN⟩ := P
  have bx := rp_bm I e1
  have f73 := lw_frA F I.lo (c := 73) (by decide) b2.2
  have ar : ∀ j, j ≤ 6 → ∀ p, h2.2.2.2 (86 + j) p = h.2.2.2 (86 + j) p := fun j hj p => lw_frA F I.lo (by omega) (Bool.and_eq_true _ _ ▸ List.all_eq_true.1 b1.2 j (List.mem_range.2 (by omega))).1 p
  refine ⟨(lw_frA F I.lo (by decide) b4.1 0).trans z, x, by rw [lw_frF F I.lo (by decide) b4.2, e1], by rw [lw_frF F I.lo (by decide) b3.2, e2], fun p hp => ?_, fun p a1 a2 => ?_⟩
  · obtain ⟨s, k1, k2⟩ := PP p hp
    obtain ⟨o1, o2, o3⟩ := rp_obj I (p := p) (by omega) k1
    refine ⟨s, by rw [f73, k1], fun j hj => ?_⟩
    rw [lw_frO F o1 o2 o3 (Bool.and_eq_true _ _ ▸ List.all_eq_true.1 b1.2 j (List.mem_range.2 (by omega))).2, ar j hj]
    exact k2 j hj
  · rw [ar 5 (by decide), ar 6 (by decide)]
    exact PN p a1 a2
theorem rp_Cfr (I : cq_Inv none h) (F : cq_Fr m h h2) (q : rp_Cm m = true) (C : rp_C h) : rp_C h2 := by
  have b1 := (Bool.and_eq_true _ _ ▸ q)
  have b2 := (Bool.and_eq_true _ _ ▸ b1.1)
  have b3 := (Bool.and_eq_true _ _ ▸ b2.1)
  have b4 := (Bool.and_eq_true _ _ ▸ b3.1)
  obtain ⟨x, ν, e1, e2, CC⟩ := C
  have bx := rp_bn I e1
  refine ⟨x, ν, by rw [lw_frF F I.lo (by decide) b4.1, e1], by rw [lw_frF F I.lo (by decide) b4.2, e2], fun c hc => ?_⟩
  obtain ⟨⟨s, k1, k2⟩, k3⟩ := CC c hc
  obtain ⟨o1, o2, o3⟩ := rp_cob I (c := c) (by omega) k1
  exact ⟨⟨s, by rw [lw_frA F I.lo (by decide) b3.2, k1], by rw [lw_frO F o1 o2 o3 b1.2, k2]⟩, by rw [lw_frA F I.lo (by decide) b2.2, k3]⟩
end RPF
theorem ax_p1 {m : Int32} (h : 0 ≤ m.toInt ∧ m.toInt < 100) : (m + Int32.ofInt 1).toInt = m.toInt + 1 := ax_1 (by omega)
/-- what a call that changes them leaves -/
def rp_O (h h1 h2 : am_H) (m1 m2 : cq_W) : Prop := cq_Inv none h1 ∧ cq_Inv none h2 ∧ cq_Fr m1 h h1 ∧ cq_Fr m2 h1 h2 ∧ rp_P h2 ∧ rp_C h2 ∧ h2.1 ≤ h.1 + 12 ∧ h2.2.1 ≤ h.2.1 + 624
section OPC
variable {h : am_H} {d : Nat} {p : Int32}
theorem op_can (I : cq_Inv none h) (P : rp_P h) (C : rp_C h) : ∃ (a : Int32) (h1 h2 : am_H), am_ev (d + 2) 101 0 (am_ent [.ref 40, .int p] (am_in 101).2.2.1) [] h (some (.int a), h1) ∧ am_ev (d + 2) 225 0 (am_ent [.ref 78, .int p] (am_in 225).2.2.1) [] h1 (some (.int a), h2) ∧ rp_O h h1 h2 ct_101.2.2.2.1 ct_225.2.2.2.1 := by
  have P0 := P
  have C0 := C
  obtain ⟨m, m1, m2, PP, PD⟩ := P
  obtain ⟨n, ν, n1, n2, CC⟩ := C
  have bm := rp_bm I m1
  have bn := rp_bn I n1
  have lo := I.lo
  obtain ⟨r, h1, ev1, T1, I1, F1, A1, B1⟩ := sp_ap1 (A := 1) (B := 8) ok_101 rfl rfl (by decide +kernel) I (d := d + 2) (by show 2 ≤ d + 2; omega) p
  obtain ⟨r', h2, ev2, T2, I2, F2, A2, B2⟩ := sp_ap1 (A := 0) (B := 0) ok_225 rfl rfl (by decide +kernel) I1 (d := d + 2) (by show 2 ≤ d + 2; omega) p
  have O40 := ax_o I (c := 40) (k := 11) (by decide +kernel)
  have O78 := ax_o I1 (c := 78) (k := 13) (by decide +kernel)
  have k16 : h1.2.2.2 78 16 = .int m := by rw [lw_frF F1 lo (by decide) (by decide +kernel), m2]
  have k53 : h1.2.2.2 78 53 = .int n := by rw [lw_frF F1 lo (by decide) (by decide +kernel), n2]
  have k117 : ∀ j, h1.2.2.2 117 j = h.2.2.2 117 j := lw_frA F1 lo (by decide) (by decide +kernel)
  have P1 : rp_P h1 := rp_Pfr I F1 (by decide +kernel) P0
  have P2 : rp_P h2 := rp_Pfr I1 F2 (by decide +kernel) P1
  have z0 : (Int32.ofInt 0).toInt = 0 := by decide
  have fin : ∀ a : Int32, r = some (.int a) → r' = some (.int a) → rp_C h2 → ∃ (a : Int32) (h1 h2 : am_H), am_ev (d + 2) 101 0 (am_ent [.ref 40, .int p] (am_in 101).2.2.1) [] h (some (.int a), h1) ∧ am_ev (d + 2) 225 0 (am_ent [.ref 78, .int p] (am_in 225).2.2.1) [] h1 (some (.int a), h2) ∧ rp_O h h1 h2 ct_101.2.2.2.1 ct_225.2.2.2.1 := fun a e1 e2 C2 => ⟨a, h1, h2, by rw [← e1]; exact ev1, by rw [← e2]; exact ev2, I1, I2, F1, F2, P2, C2, by omega, by omega⟩
  by_cases hp : 0 ≤ p.toInt ∧ p.toInt < m.toInt
  · obtain ⟨s, t, w, s1, -⟩ := PP p.toInt.toNat (by omega)
    have H42 := (po_42 (d := d + 1) I m1 bm).1 hp
    rw [s1] at H42
    have H188 := (po_188 (d := d) O78 k16 bm).1 hp
    have top : ∀ x, am_ev (d + 2) 101 15 [.ref 40, .int p, .ref s, .int (Int32.ofInt 0)] [] h x → am_ev (d + 2) 101 0 (am_ent [.ref 40, .int p] (am_in 101).2.2.1) [] h x := fun x q => by
      refine am_ev.step (pc' := 1) rfl rfl ?_
      refine am_ev.step (pc' := 2) rfl rfl ?_
      refine ax_call (z := 42) (p' := 5) (as := [_, _]) rfl (Or.inr (Or.inl ⟨_, rfl⟩)) rfl rfl rfl rfl rfl rfl O40 rfl H42 rfl ?_
      refine am_ev.step (pc' := 6) rfl rfl ?_
      refine am_ev.step (pc' := 7) rfl rfl ?_
      refine am_ev.step (pc' := 13) rfl rfl ?_
      refine am_ev.step (pc' := 14) rfl rfl ?_
      refine am_ev.step (pc' := 15) rfl rfl ?_
      exact q
    have top2 : ∀ x, am_ev (d + 2) 225 13 [.ref 78, .int p, .int (Int32.ofInt 0)] [] h1 x → am_ev (d + 2) 225 0 (am_ent [.ref 78, .int p] (am_in 225).2.2.1) [] h1 x := fun x q => by
      refine am_ev.step (pc' := 1) rfl rfl ?_
      refine am_ev.step (pc' := 2) rfl rfl ?_
      refine ax_call (z := 188) (p' := 5) (as := [_, _]) rfl (Or.inr (Or.inl ⟨_, rfl⟩)) rfl rfl rfl rfl rfl rfl O78 rfl H188 rfl ?_
      refine ax_z_ne_T (p' := 11) rfl rfl (by decide : ¬ Int32.ofInt 1 = 0) ?_
      refine am_ev.step (pc' := 12) rfl rfl ?_
      refine am_ev.step (pc' := 13) rfl rfl ?_
      exact q
    have v12 := ax_rf I (c := 40) (j := 12) (k := 74) (by decide +kernel) (by decide +kernel)
    have v56 := ax_rf I1 (c := 78) (j := 56) (k := 117) (by decide +kernel) (by decide +kernel)
    have A74 := ax_ar I (c := 74) (tc := 5) (n := 14) (by decide) (by decide +kernel)
    have A117 := ax_ar I1 (c := 117) (tc := 0) (n := 14) (by decide) (by decide +kernel)
    have L1 := ca_101 (d := d + 2) (p := p) (pm := s) (ν := ν) O40 n1 v12 A74 bn.2 (fun c hc => by
      obtain ⟨⟨s, k1, k2⟩, -⟩ := CC c hc
      exact ⟨s, k1, ax_kO (rp_cob I (c := c) (by omega) k1), k2⟩) 14 (Int32.ofInt 0) (by omega) (by omega) (by omega)
    have L2 := ca_225 (d := d + 2) (p := p) (ν := ν) O78 k53 v56 A117 bn.2 (fun c hc => by rw [k117, (CC c hc).2]) 14 (Int32.ofInt 0) (by omega) (by omega) (by omega)
    by_cases hf : ∃ j : Nat, (Int32.ofInt 0).toInt ≤ j ∧ (j : Int) < n.toInt ∧ ν j = p
    · have q1 := ax_det ev1 (top _ (L1.1 hf))
      have q2 := ax_det ev2 (top2 _ (L2.1 hf))
      have e1 := (Prod.mk.inj q1).1
      have e2 := (Prod.mk.inj q2).1
      have e3 := (Prod.mk.inj q1).2
      have e4 := (Prod.mk.inj q2).2
      exact fin _ e1 e2 (by rw [e4, e3]; exact C0)
    · have hf' : ∀ j : Nat, (Int32.ofInt 0).toInt ≤ j → (j : Int) < n.toInt → ν j ≠ p := fun j a b c => hf ⟨j, a, b, c⟩
      by_cases hn : n.toInt < 14
      · obtain ⟨g, w1, w2, w3, w4, w5⟩ := ca_101d (d := d) (p := p) (pm := s) I n1 ⟨bn.1, hn⟩
        obtain ⟨g', u1, u2, u3, u4⟩ := ca_225d (d := d + 2) (p := p) I1 k53 ⟨bn.1, hn⟩
        have q1 := ax_det ev1 (top _ (L1.2 _ hf' w1))
        have q2 := ax_det ev2 (top2 _ (L2.2 _ hf' u1))
        have e1 := (Prod.mk.inj q1).1
        have e2 := (Prod.mk.inj q2).1
        have e3 := (Prod.mk.inj q1).2
        have e4 := (Prod.mk.inj q2).2
        refine fin _ e1 e2 ?_
        have np := ax_p1 (m := n) ⟨bn.1, by omega⟩
        have f1 : ∀ c j, c < 130 → lw_nF ct_225.2.2.2.1 c j = true → h2.2.2.2 c j = h1.2.2.2 c j := fun c j hc q => lw_frF F2 I1.lo hc q
        have f74 := lw_frA F2 I1.lo (c := 74) (by decide) (by decide +kernel)
        refine ⟨n + Int32.ofInt 1, fun c => if c = n.toInt.toNat then p else ν c, ?_, ?_, fun c hc => ⟨?_, ?_⟩⟩
        · rw [f1 40 13 (by decide) (by decide +kernel), e3]
          exact w2
        · rw [e4]
          exact u2
        · by_cases ec : c = n.toInt.toNat
          · dsimp only
            rw [if_pos ec, ec]
            refine ⟨h.1, by rw [f74, e3]; exact w3, ?_⟩
            obtain ⟨o1, o2, o3⟩ := rp_cob I1 (c := n.toInt.toNat) (s := h.1) (by omega) (by rw [e3]; exact w3)
            rw [lw_frO F2 o1 o2 o3 (by decide +kernel), e3]
            exact w4
          · dsimp only
            rw [if_neg ec]
            obtain ⟨⟨s', k1, k2⟩, -⟩ := CC c (by omega)
            obtain ⟨o1, o2, o3⟩ := rp_cob I (c := c) (by omega) k1
            have x1 : h1.2.2.2 74 c = .ref s' := by rw [e3, w5 c ec, k1]
            obtain ⟨p1, p2, p3⟩ := rp_cob I1 (c := c) (by omega) x1
            exact ⟨s', by rw [f74, x1], by rw [lw_frO F2 p1 p2 p3 (by decide +kernel), lw_frO F1 o1 o2 o3 (by decide +kernel), k2]⟩
        · by_cases ec : c = n.toInt.toNat
          · dsimp only
            rw [if_pos ec, ec, e4]
            exact u3
          · dsimp only
            rw [if_neg ec, e4, u4 c ec, k117, (CC c (by omega)).2]
      · have lt : ¬ n < (Int8.ofInt 14).toInt32 := fun z => by
          have z := Int32.lt_iff_toInt_lt.1 z
          rw [show (Int8.ofInt 14).toInt32.toInt = 14 by decide] at z
          omega
        have eq : n = (Int8.ofInt 14).toInt32 := Int32.toInt_inj.1 (by
          rw [show (Int8.ofInt 14).toInt32.toInt = 14 by decide]
          omega)
        have w1 : am_ev (d + 2) 101 45 [.ref 40, .int p, .ref s, .int n] [] h (some (ax_m (-3)), h) := by
          refine am_ev.step (pc' := 46) rfl rfl ?_
          refine ax_gf (p' := 49) rfl rfl O40 n1 ?_
          refine am_ev.step (pc' := 51) rfl rfl ?_
          refine ax_c_lt_N (p' := 54) rfl rfl lt ?_
          refine am_ev.step (pc' := 56) rfl rfl ?_
          exact am_ev.reti rfl rfl rfl
        have u1 : am_ev (d + 2) 225 40 [.ref 78, .int p, .int n] [] h1 (some (ax_m (-3)), h1) := by
          refine am_ev.step (pc' := 41) rfl rfl ?_
          refine ax_gf (p' := 44) rfl rfl O78 k53 ?_
          refine am_ev.step (pc' := 46) rfl rfl ?_
          refine ax_c_ne_N (p' := 49) rfl rfl eq ?_
          refine am_ev.step (pc' := 51) rfl rfl ?_
          exact am_ev.reti rfl rfl rfl
        have q1 := ax_det ev1 (top _ (L1.2 _ hf' w1))
        have q2 := ax_det ev2 (top2 _ (L2.2 _ hf' u1))
        have e1 := (Prod.mk.inj q1).1
        have e2 := (Prod.mk.inj q2).1
        have e3 := (Prod.mk.inj q1).2
        have e4 := (Prod.mk.inj q2).2
        exact fin _ e1 e2 (by rw [e4, e3]; exact C0)
  · have H42 := (po_42 (d := d + 1) I m1 bm).2 hp
    have H188 := (po_188 (d := d) O78 k16 bm).2 hp
    have w1 : am_ev (d + 2) 101 0 (am_ent [.ref 40, .int p] (am_in 101).2.2.1) [] h (some (ax_m (-2)), h) := by
      refine am_ev.step (pc' := 1) rfl rfl ?_
      refine am_ev.step (pc' := 2) rfl rfl ?_
      refine ax_call (z := 42) (p' := 5) (as := [_, _]) rfl (Or.inr (Or.inl ⟨_, rfl⟩)) rfl rfl rfl rfl rfl rfl O40 rfl H42 rfl ?_
      refine am_ev.step (pc' := 6) rfl rfl ?_
      refine am_ev.step (pc' := 7) rfl rfl ?_
      refine am_ev.step (pc' := 10) rfl rfl ?_
      refine am_ev.step (pc' := 12) rfl rfl ?_
      exact am_ev.reti rfl rfl rfl
    have u1 : am_ev (d + 2) 225 0 (am_ent [.ref 78, .int p] (am_in 225).2.2.1) [] h1 (some (ax_m (-2)), h1) := by
      refine am_ev.step (pc' := 1) rfl rfl ?_
      refine am_ev.step (pc' := 2) rfl rfl ?_
      refine ax_call (z := 188) (p' := 5) (as := [_, _]) rfl (Or.inr (Or.inl ⟨_, rfl⟩)) rfl rfl rfl rfl rfl rfl O78 rfl H188 rfl ?_
      refine ax_z_ne_N (p' := 8) rfl rfl (by decide : Int32.ofInt 0 = 0) ?_
      refine am_ev.step (pc' := 10) rfl rfl ?_
      exact am_ev.reti rfl rfl rfl
    have q1 := ax_det ev1 w1
    have q2 := ax_det ev2 u1
    have e1 := (Prod.mk.inj q1).1
    have e2 := (Prod.mk.inj q2).1
    have e3 := (Prod.mk.inj q1).2
    have e4 := (Prod.mk.inj q2).2
    exact fin _ e1 e2 (by rw [e4, e3]; exact C0)
end OPC
end
