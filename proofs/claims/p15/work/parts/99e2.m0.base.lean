/-! CALLS AS THE LAW NEEDS THEM -/
theorem dh_blt {a : Nat} (q : 130 ≤ a) : Nat.blt a 130 = false := by
  cases z : Nat.blt a 130 with
  | false => rfl
  | true =>
    have : a < 130 := Nat.le_of_ble_eq_true z
    omega
section AXI
variable {h : am_H} (I : cq_Inv none h)
theorem ax_o (I : cq_Inv none h) {c k : Nat} (q : (Nat.ble 40 c && Nat.blt c 130 && Nat.beq (cq_fix c).1 0 && Nat.beq (cq_fix c).2.1 k) = true) : am_isO h c k = true := by
  have b1 := (Bool.and_eq_true _ _ ▸ q)
  have b2 := (Bool.and_eq_true _ _ ▸ b1.1)
  have b3 := (Bool.and_eq_true _ _ ▸ b2.1)
  have hc : c < 130 := Nat.le_of_ble_eq_true b3.2
  have fx := I.fx c (Nat.le_of_ble_eq_true b3.1) hc
  unfold am_isO
  rw [fx, show Nat.blt c h.1 = true from Nat.ble_eq_true_of_le (Nat.lt_of_lt_of_le hc I.lo), b2.2, b1.2]
  rfl
theorem ax_ty (I : cq_Inv none h) {c j : Nat} {t : cq_T} (q : (Nat.ble 40 c && Nat.blt c 130 && Nat.blt j (cq_fix c).2.2) = true) (e : cq_ty c j = t) : cq_ht h j t (h.2.2.2 c j) := by
  have b2 := (Bool.and_eq_true _ _ ▸ q)
  have b3 := (Bool.and_eq_true _ _ ▸ b2.1)
  have hc : c < 130 := Nat.le_of_ble_eq_true b3.2
  have h40 := Nat.le_of_ble_eq_true b3.1
  have fx := I.fx c h40 hc
  have k := I.ty c h40 (Nat.lt_of_lt_of_le hc I.lo) (fun z => by cases z) j (by rw [fx]; exact Nat.le_of_ble_eq_true b2.2)
  unfold cq_tyOf at k
  rw [show Nat.blt c 130 = true from Nat.ble_eq_true_of_le hc] at k
  rw [← e]
  exact k
theorem ax_in (I : cq_Inv none h) {c j : Nat} {l u : Int} (q : (Nat.ble 40 c && Nat.blt c 130 && Nat.blt j (cq_fix c).2.2) = true) (e : cq_ty c j = (1, l, u, 0, 0, 0)) : ∃ x : Int32, h.2.2.2 c j = .int x ∧ l ≤ x.toInt ∧ x.toInt ≤ u := ax_ty I q e
theorem ax_rf (I : cq_Inv none h) {c j k : Nat} (q : (Nat.ble 40 c && Nat.blt c 130 && Nat.blt j (cq_fix c).2.2) = true) (e : cq_ty c j = (3, 0, 0, k, 0, 0)) : h.2.2.2 c j = .ref k := ax_ty I q e
theorem ax_ar (I : cq_Inv none h) {c tc n : Nat} (q : (Nat.ble 40 c && Nat.blt c 130) = true) (e : cq_fix c = (1, tc, n)) : c < h.1 ∧ h.2.2.1 c = (1, tc, n) := by
  have b3 := (Bool.and_eq_true _ _ ▸ q)
  have hc : c < 130 := Nat.le_of_ble_eq_true b3.2
  exact ⟨Nat.lt_of_lt_of_le hc I.lo, by rw [I.fx c (Nat.le_of_ble_eq_true b3.1) hc, e]⟩
theorem ax_kO {a k : Nat} (q : cq_kOk h a (0, k, 0)) : am_isO h a k = true := by
  obtain ⟨q1, q2, q3⟩ := q
  unfold am_isO
  rw [q3, show Nat.blt a h.1 = true from Nat.ble_eq_true_of_le q2]
  dsimp only
  rw [Nat.beq_refl, Nat.beq_refl]
  rfl
/-- a field of an object that was made -/
theorem ax_fd (I : cq_Inv none h) {a k j : Nat} {t : cq_T} (q : cq_kOk h a (0, k, 0)) (hj : j < am_N k) (e : cq_cl k j = t) : cq_ht h j t (h.2.2.2 a j) := by
  obtain ⟨q1, q2, q3⟩ := q
  have w := I.ty a (by omega) q2 (fun z => by cases z) j (by rw [q3]; exact hj)
  unfold cq_tyOf at w
  rw [dh_blt q1, q3] at w
  rw [← e]
  exact w
end AXI
theorem ax_1 {c : Int32} (h1 : c.toInt < 2147483647) : (c + Int32.ofInt 1).toInt = c.toInt + 1 := by
  have := c.le_toInt
  rw [Int32.toInt_add, show (Int32.ofInt 1).toInt = 1 by decide, Int.bmod_eq_of_le (by omega) (by omega)]
def ax_m (n : Int) : Value := .int (Int8.ofInt n).toInt32
theorem sp_ap0 {y k : Nat} {c : cq_Ct} (ok : cq_CT y c) (e1 : c.2.1 = [(5, (0, []), k)]) (e2 : c.2.2.1 = cq_mk 0 ([], []) [] [] [] [] [] [] none 0 0) {A B : Nat} (e3 : (c.2.2.2.2.all fun x => !x.1 && x.2.2.U.isNone && Nat.ble x.2.2.ac A && Nat.ble x.2.2.al B) = true) {h : am_H} (I : cq_Inv none h) {d : Nat} (hd : c.1 ≤ d) : ∃ r h', am_ev d y 0 (am_ent [.ref k] (am_in y).2.2.1) [] h (r, h') ∧ am_isT r = none ∧ cq_Inv none h' ∧ cq_Fr c.2.2.2.1 h h' ∧ h'.1 ≤ h.1 + A ∧ h'.2.1 ≤ h.2.1 + B := by
  let ρ : Nat → Int := fun _ => 0
  have gg : cq_gs ρ c.2.1 [.ref k] := by
    rw [e1]
    exact ⟨rfl, trivial⟩
  have M0 : cq_Md c.2.2.2.1 h ρ c.2.2.1 h := by
    rw [e2]
    exact cq_Md_p ⟨fun b hb => (by cases hb), fun _ z => (by cases z)⟩ (fun _ z => (by cases z)) (fun _ z => (by cases z)) I
  obtain ⟨r, h', ev, x, hx, ρ', a', Mx, hr⟩ := ok d h ρ _ hd M0 gg
  have b1 := (Bool.and_eq_true _ _ ▸ List.all_eq_true.1 e3 x hx)
  have b2 := (Bool.and_eq_true _ _ ▸ b1.1)
  have b3 := (Bool.and_eq_true _ _ ▸ b2.1)
  have IX := Mx.I
  rw [Option.isNone_iff_eq_none.1 b3.2] at IX
  refine ⟨r, h', ev, ?_, IX, Mx.F, Nat.le_trans Mx.A.1 (Nat.add_le_add_left (Nat.le_of_ble_eq_true b2.2) _), Nat.le_trans Mx.A.2 (Nat.add_le_add_left (Nat.le_of_ble_eq_true b1.2) _)⟩
  rcases hr with ⟨_, z, _⟩ | ⟨z, _⟩
  · exact z
  · have := b3.1
    rw [z] at this
    cases this
theorem sp_ap1 {y k : Nat} {c : cq_Ct} (ok : cq_CT y c) (e1 : c.2.1 = [(5, (0, []), k), (1, (0, [(0, 1)]), 0)]) (e2 : c.2.2.1 = cq_mk 1 ([(0, (-2147483648), 2147483647)], []) [] [] [] [] [] [] none 0 0) {A B : Nat} (e3 : (c.2.2.2.2.all fun x => !x.1 && x.2.2.U.isNone && Nat.ble x.2.2.ac A && Nat.ble x.2.2.al B) = true) {h : am_H} (I : cq_Inv none h) {d : Nat} (hd : c.1 ≤ d) (p0 : Int32) : ∃ r h', am_ev d y 0 (am_ent [.ref k, .int p0] (am_in y).2.2.1) [] h (r, h') ∧ am_isT r = none ∧ cq_Inv none h' ∧ cq_Fr c.2.2.2.1 h h' ∧ h'.1 ≤ h.1 + A ∧ h'.2.1 ≤ h.2.1 + B := by
  let ρ : Nat → Int := fun s => match s with
    | 0 => p0.toInt
    | _ => p0.toInt
  have gg : cq_gs ρ c.2.1 [.ref k, .int p0] := by
    rw [e1]
    exact ⟨rfl, ⟨p0, rfl, (cq_s_e ρ 0).symm⟩, trivial⟩
  have M0 : cq_Md c.2.2.2.1 h ρ c.2.2.1 h := by
    rw [e2]
    refine cq_Md_p ⟨fun b hb => ?_, fun _ z => (by cases z)⟩ (fun _ z => (by cases z)) (fun _ z => (by cases z)) I
    have full : ∀ v : Int32, -2147483648 ≤ v.toInt ∧ v.toInt ≤ 2147483647 := fun v => by
      have r1 := v.le_toInt
      have r2 := v.toInt_lt
      omega
    simp only [List.mem_cons, List.not_mem_nil, or_false] at hb
    rcases hb with rfl
    exact full p0
  obtain ⟨r, h', ev, x, hx, ρ', a', Mx, hr⟩ := ok d h ρ _ hd M0 gg
  have b1 := (Bool.and_eq_true _ _ ▸ List.all_eq_true.1 e3 x hx)
  have b2 := (Bool.and_eq_true _ _ ▸ b1.1)
  have b3 := (Bool.and_eq_true _ _ ▸ b2.1)
  have IX := Mx.I
  rw [Option.isNone_iff_eq_none.1 b3.2] at IX
  refine ⟨r, h', ev, ?_, IX, Mx.F, Nat.le_trans Mx.A.1 (Nat.add_le_add_left (Nat.le_of_ble_eq_true b2.2) _), Nat.le_trans Mx.A.2 (Nat.add_le_add_left (Nat.le_of_ble_eq_true b1.2) _)⟩
  rcases hr with ⟨_, z, _⟩ | ⟨z, _⟩
  · exact z
  · have := b3.1
    rw [z] at this
    cases this
theorem sp_ap2 {y k : Nat} {c : cq_Ct} (ok : cq_CT y c) (e1 : c.2.1 = [(5, (0, []), k), (1, (0, [(0, 1)]), 0), (1, (0, [(1, 1)]), 0)]) (e2 : c.2.2.1 = cq_mk 2 ([(0, (-2147483648), 2147483647), (1, (-2147483648), 2147483647)], []) [] [] [] [] [] [] none 0 0) {A B : Nat} (e3 : (c.2.2.2.2.all fun x => !x.1 && x.2.2.U.isNone && Nat.ble x.2.2.ac A && Nat.ble x.2.2.al B) = true) {h : am_H} (I : cq_Inv none h) {d : Nat} (hd : c.1 ≤ d) (p0 p1 : Int32) : ∃ r h', am_ev d y 0 (am_ent [.ref k, .int p0, .int p1] (am_in y).2.2.1) [] h (r, h') ∧ am_isT r = none ∧ cq_Inv none h' ∧ cq_Fr c.2.2.2.1 h h' ∧ h'.1 ≤ h.1 + A ∧ h'.2.1 ≤ h.2.1 + B := by
  let ρ : Nat → Int := fun s => match s with
    | 0 => p0.toInt
    | _ => p1.toInt
  have gg : cq_gs ρ c.2.1 [.ref k, .int p0, .int p1] := by
    rw [e1]
    exact ⟨rfl, ⟨p0, rfl, (cq_s_e ρ 0).symm⟩, ⟨p1, rfl, (cq_s_e ρ 1).symm⟩, trivial⟩
  have M0 : cq_Md c.2.2.2.1 h ρ c.2.2.1 h := by
    rw [e2]
    refine cq_Md_p ⟨fun b hb => ?_, fun _ z => (by cases z)⟩ (fun _ z => (by cases z)) (fun _ z => (by cases z)) I
    have full : ∀ v : Int32, -2147483648 ≤ v.toInt ∧ v.toInt ≤ 2147483647 := fun v => by
      have r1 := v.le_toInt
      have r2 := v.toInt_lt
      omega
    simp only [List.mem_cons, List.not_mem_nil, or_false] at hb
    rcases hb with rfl | rfl
    · exact full p0
    · exact full p1
  obtain ⟨r, h', ev, x, hx, ρ', a', Mx, hr⟩ := ok d h ρ _ hd M0 gg
  have b1 := (Bool.and_eq_true _ _ ▸ List.all_eq_true.1 e3 x hx)
  have b2 := (Bool.and_eq_true _ _ ▸ b1.1)
  have b3 := (Bool.and_eq_true _ _ ▸ b2.1)
  have IX := Mx.I
  rw [Option.isNone_iff_eq_none.1 b3.2] at IX
  refine ⟨r, h', ev, ?_, IX, Mx.F, Nat.le_trans Mx.A.1 (Nat.add_le_add_left (Nat.le_of_ble_eq_true b2.2) _), Nat.le_trans Mx.A.2 (Nat.add_le_add_left (Nat.le_of_ble_eq_true b1.2) _)⟩
  rcases hr with ⟨_, z, _⟩ | ⟨z, _⟩
  · exact z
  · have := b3.1
    rw [z] at this
    cases this
theorem sp_ap3 {y k : Nat} {c : cq_Ct} (ok : cq_CT y c) (e1 : c.2.1 = [(5, (0, []), k), (1, (0, [(0, 1)]), 0), (1, (0, [(1, 1)]), 0), (1, (0, [(2, 1)]), 0)]) (e2 : c.2.2.1 = cq_mk 3 ([(0, (-2147483648), 2147483647), (1, (-2147483648), 2147483647), (2, (-2147483648), 2147483647)], []) [] [] [] [] [] [] none 0 0) {A B : Nat} (e3 : (c.2.2.2.2.all fun x => !x.1 && x.2.2.U.isNone && Nat.ble x.2.2.ac A && Nat.ble x.2.2.al B) = true) {h : am_H} (I : cq_Inv none h) {d : Nat} (hd : c.1 ≤ d) (p0 p1 p2 : Int32) : ∃ r h', am_ev d y 0 (am_ent [.ref k, .int p0, .int p1, .int p2] (am_in y).2.2.1) [] h (r, h') ∧ am_isT r = none ∧ cq_Inv none h' ∧ cq_Fr c.2.2.2.1 h h' ∧ h'.1 ≤ h.1 + A ∧ h'.2.1 ≤ h.2.1 + B := by
  let ρ : Nat → Int := fun s => match s with
    | 0 => p0.toInt
    | 1 => p1.toInt
    | _ => p2.toInt
  have gg : cq_gs ρ c.2.1 [.ref k, .int p0, .int p1, .int p2] := by
    rw [e1]
    exact ⟨rfl, ⟨p0, rfl, (cq_s_e ρ 0).symm⟩, ⟨p1, rfl, (cq_s_e ρ 1).symm⟩, ⟨p2, rfl, (cq_s_e ρ 2).symm⟩, trivial⟩
  have M0 : cq_Md c.2.2.2.1 h ρ c.2.2.1 h := by
    rw [e2]
    refine cq_Md_p ⟨fun b hb => ?_, fun _ z => (by cases z)⟩ (fun _ z => (by cases z)) (fun _ z => (by cases z)) I
    have full : ∀ v : Int32, -2147483648 ≤ v.toInt ∧ v.toInt ≤ 2147483647 := fun v => by
      have r1 := v.le_toInt
      have r2 := v.toInt_lt
      omega
    simp only [List.mem_cons, List.not_mem_nil, or_false] at hb
    rcases hb with rfl | rfl | rfl
    · exact full p0
    · exact full p1
    · exact full p2
  obtain ⟨r, h', ev, x, hx, ρ', a', Mx, hr⟩ := ok d h ρ _ hd M0 gg
  have b1 := (Bool.and_eq_true _ _ ▸ List.all_eq_true.1 e3 x hx)
  have b2 := (Bool.and_eq_true _ _ ▸ b1.1)
  have b3 := (Bool.and_eq_true _ _ ▸ b2.1)
  have IX := Mx.I
  rw [Option.isNone_iff_eq_none.1 b3.2] at IX
  refine ⟨r, h', ev, ?_, IX, Mx.F, Nat.le_trans Mx.A.1 (Nat.add_le_add_left (Nat.le_of_ble_eq_true b2.2) _), Nat.le_trans Mx.A.2 (Nat.add_le_add_left (Nat.le_of_ble_eq_true b1.2) _)⟩
  rcases hr with ⟨_, z, _⟩ | ⟨z, _⟩
  · exact z
  · have := b3.1
    rw [z] at this
    cases this
theorem sp_ap4 {y k : Nat} {c : cq_Ct} (ok : cq_CT y c) (e1 : c.2.1 = [(5, (0, []), k), (1, (0, [(0, 1)]), 0), (1, (0, [(1, 1)]), 0), (1, (0, [(2, 1)]), 0), (1, (0, [(3, 1)]), 0)]) (e2 : c.2.2.1 = cq_mk 4 ([(0, (-2147483648), 2147483647), (1, (-2147483648), 2147483647), (2, (-2147483648), 2147483647), (3, (-2147483648), 2147483647)], []) [] [] [] [] [] [] none 0 0) {A B : Nat} (e3 : (c.2.2.2.2.all fun x => !x.1 && x.2.2.U.isNone && Nat.ble x.2.2.ac A && Nat.ble x.2.2.al B) = true) {h : am_H} (I : cq_Inv none h) {d : Nat} (hd : c.1 ≤ d) (p0 p1 p2 p3 : Int32) : ∃ r h', am_ev d y 0 (am_ent [.ref k, .int p0, .int p1, .int p2, .int p3] (am_in y).2.2.1) [] h (r, h') ∧ am_isT r = none ∧ cq_Inv none h' ∧ cq_Fr c.2.2.2.1 h h' ∧ h'.1 ≤ h.1 + A ∧ h'.2.1 ≤ h.2.1 + B := by
  let ρ : Nat → Int := fun s => match s with
    | 0 => p0.toInt
    | 1 => p1.toInt
    | 2 => p2.toInt
    | _ => p3.toInt
  have gg : cq_gs ρ c.2.1 [.ref k, .int p0, .int p1, .int p2, .int p3] := by
    rw [e1]
    exact ⟨rfl, ⟨p0, rfl, (cq_s_e ρ 0).symm⟩, ⟨p1, rfl, (cq_s_e ρ 1).symm⟩, ⟨p2, rfl, (cq_s_e ρ 2).symm⟩, ⟨p3, rfl, (cq_s_e ρ 3).symm⟩, trivial⟩
  have M0 : cq_Md c.2.2.2.1 h ρ c.2.2.1 h := by
    rw [e2]
    refine cq_Md_p ⟨fun b hb => ?_, fun _ z => (by cases z)⟩ (fun _ z => (by cases z)) (fun _ z => (by cases z)) I
    have full : ∀ v : Int32, -2147483648 ≤ v.toInt ∧ v.toInt ≤ 2147483647 := fun v => by
      have r1 := v.le_toInt
      have r2 := v.toInt_lt
      omega
    simp only [List.mem_cons, List.not_mem_nil, or_false] at hb
    rcases hb with rfl | rfl | rfl | rfl
    · exact full p0
    · exact full p1
    · exact full p2
    · exact full p3
  obtain ⟨r, h', ev, x, hx, ρ', a', Mx, hr⟩ := ok d h ρ _ hd M0 gg
  have b1 := (Bool.and_eq_true _ _ ▸ List.all_eq_true.1 e3 x hx)
  have b2 := (Bool.and_eq_true _ _ ▸ b1.1)
  have b3 := (Bool.and_eq_true _ _ ▸ b2.1)
  have IX := Mx.I
  rw [Option.isNone_iff_eq_none.1 b3.2] at IX
  refine ⟨r, h', ev, ?_, IX, Mx.F, Nat.le_trans Mx.A.1 (Nat.add_le_add_left (Nat.le_of_ble_eq_true b2.2) _), Nat.le_trans Mx.A.2 (Nat.add_le_add_left (Nat.le_of_ble_eq_true b1.2) _)⟩
  rcases hr with ⟨_, z, _⟩ | ⟨z, _⟩
  · exact z
  · have := b3.1
    rw [z] at this
    cases this
theorem sp_ap5 {y k : Nat} {c : cq_Ct} (ok : cq_CT y c) (e1 : c.2.1 = [(5, (0, []), k), (1, (0, [(0, 1)]), 0), (1, (0, [(1, 1)]), 0), (1, (0, [(2, 1)]), 0), (1, (0, [(3, 1)]), 0), (1, (0, [(4, 1)]), 0)]) (e2 : c.2.2.1 = cq_mk 5 ([(0, (-2147483648), 2147483647), (1, (-2147483648), 2147483647), (2, (-2147483648), 2147483647), (3, (-2147483648), 2147483647), (4, (-2147483648), 2147483647)], []) [] [] [] [] [] [] none 0 0) {A B : Nat} (e3 : (c.2.2.2.2.all fun x => !x.1 && x.2.2.U.isNone && Nat.ble x.2.2.ac A && Nat.ble x.2.2.al B) = true) {h : am_H} (I : cq_Inv none h) {d : Nat} (hd : c.1 ≤ d) (p0 p1 p2 p3 p4 : Int32) : ∃ r h', am_ev d y 0 (am_ent [.ref k, .int p0, .int p1, .int p2, .int p3, .int p4] (am_in y).2.2.1) [] h (r, h') ∧ am_isT r = none ∧ cq_Inv none h' ∧ cq_Fr c.2.2.2.1 h h' ∧ h'.1 ≤ h.1 + A ∧ h'.2.1 ≤ h.2.1 + B := by
  let ρ : Nat → Int := fun s => match s with
    | 0 => p0.toInt
    | 1 => p1.toInt
    | 2 => p2.toInt
    | 3 => p3.toInt
    | _ => p4.toInt
  have gg : cq_gs ρ c.2.1 [.ref k, .int p0, .int p1, .int p2, .int p3, .int p4] := by
    rw [e1]
    exact ⟨rfl, ⟨p0, rfl, (cq_s_e ρ 0).symm⟩, ⟨p1, rfl, (cq_s_e ρ 1).symm⟩, ⟨p2, rfl, (cq_s_e ρ 2).symm⟩, ⟨p3, rfl, (cq_s_e ρ 3).symm⟩, ⟨p4, rfl, (cq_s_e ρ 4).symm⟩, trivial⟩
  have M0 : cq_Md c.2.2.2.1 h ρ c.2.2.1 h := by
    rw [e2]
    refine cq_Md_p ⟨fun b hb => ?_, fun _ z => (by cases z)⟩ (fun _ z => (by cases z)) (fun _ z => (by cases z)) I
    have full : ∀ v : Int32, -2147483648 ≤ v.toInt ∧ v.toInt ≤ 2147483647 := fun v => by
      have r1 := v.le_toInt
      have r2 := v.toInt_lt
      omega
    simp only [List.mem_cons, List.not_mem_nil, or_false] at hb
    rcases hb with rfl | rfl | rfl | rfl | rfl
    · exact full p0
    · exact full p1
    · exact full p2
    · exact full p3
    · exact full p4
  obtain ⟨r, h', ev, x, hx, ρ', a', Mx, hr⟩ := ok d h ρ _ hd M0 gg
  have b1 := (Bool.and_eq_true _ _ ▸ List.all_eq_true.1 e3 x hx)
  have b2 := (Bool.and_eq_true _ _ ▸ b1.1)
  have b3 := (Bool.and_eq_true _ _ ▸ b2.1)
  have IX := Mx.I
  rw [Option.isNone_iff_eq_none.1 b3.2] at IX
  refine ⟨r, h', ev, ?_, IX, Mx.F, Nat.le_trans Mx.A.1 (Nat.add_le_add_left (Nat.le_of_ble_eq_true b2.2) _), Nat.le_trans Mx.A.2 (Nat.add_le_add_left (Nat.le_of_ble_eq_true b1.2) _)⟩
  rcases hr with ⟨_, z, _⟩ | ⟨z, _⟩
  · exact z
  · have := b3.1
    rw [z] at this
    cases this
/-- what may not be written stays -/
def lw_nF (m : cq_W) (c j : Nat) : Bool := m.all fun w => w.1 || !(Nat.beq w.2.1 c && (Nat.beq w.2.2.1 0 || Nat.beq w.2.2.1 (j + 1)))
def lw_nA (m : cq_W) (c : Nat) : Bool := m.all fun w => w.1 || !Nat.beq w.2.1 c
def lw_nO (m : cq_W) (k j : Nat) : Bool := m.all fun w => bif w.1 then !(Nat.beq w.2.1 0 && Nat.beq w.2.2.1 k && (Nat.beq w.2.2.2 0 || Nat.beq w.2.2.2 (j + 1))) else Nat.blt w.2.1 130
section FRX
variable {m : cq_W} {h h2 : am_H}
theorem lw_frF (F : cq_Fr m h h2) (lo : 130 ≤ h.1) {c j : Nat} (hc : c < 130) (q : lw_nF m c j = true) : h2.2.2.2 c j = h.2.2.2 c j := by
  refine F.vl c (Nat.lt_of_lt_of_le hc lo) j ?_
  unfold cq_inW
  rw [List.any_eq_false]
  intro w hw
  have z := List.all_eq_true.1 q w hw
  cases w1 : w.1 with
  | true =>
    rw [show Nat.ble 130 c = false by cases y : Nat.ble 130 c with
      | false => rfl
      | true => have := Nat.le_of_ble_eq_true y; omega]
    simp
  | false =>
    rw [w1] at z
    simp only [Bool.false_or, Bool.not_eq_true'] at z
    rw [z]
    simp
theorem lw_frA (F : cq_Fr m h h2) (lo : 130 ≤ h.1) {c : Nat} (hc : c < 130) (q : lw_nA m c = true) (j : Nat) : h2.2.2.2 c j = h.2.2.2 c j := by
  refine lw_frF F lo hc ?_
  unfold lw_nF
  rw [List.all_eq_true]
  intro w hw
  have z := List.all_eq_true.1 q w hw
  cases w1 : w.1 with
  | true => rfl
  | false =>
    rw [w1] at z
    simp only [Bool.false_or, Bool.not_eq_true'] at z
    rw [z]
    rfl
theorem lw_frO (F : cq_Fr m h h2) {s k j n : Nat} (h1 : 130 ≤ s) (h3 : s < h.1) (sh : h.2.2.1 s = (0, k, n)) (q : lw_nO m k j = true) : h2.2.2.2 s j = h.2.2.2 s j := by
  refine F.vl s h3 j ?_
  unfold cq_inW
  rw [List.any_eq_false]
  intro w hw
  have z := List.all_eq_true.1 q w hw
  cases w1 : w.1 with
  | true =>
    rw [w1] at z
    simp only [cond_true, Bool.not_eq_true'] at z
    rw [sh]
    dsimp only
    have : (Nat.ble 130 s && Nat.beq w.2.1 0 && Nat.beq w.2.2.1 k && (Nat.beq w.2.2.2 0 || Nat.beq w.2.2.2 (j + 1))) = false := by
      rw [Bool.and_assoc, Bool.and_assoc, ← Bool.and_assoc (Nat.beq w.2.1 0), z, Bool.and_false]
    rw [this]
    simp
  | false =>
    rw [w1] at z
    have hz : w.2.1 < 130 := Nat.le_of_ble_eq_true z
    rw [dh_bne (show w.2.1 ≠ s by omega)]
    simp
end FRX
/-- two places hold the same number -/
def tT (h : am_H) (q : Nat × Nat × Nat × Nat) : Prop := ∃ t : Int32, h.2.2.2 q.1 q.2.1 = .int t ∧ h.2.2.2 q.2.2.1 q.2.2.2 = .int t
section OPB
variable {h : am_H}
/-- a tie of numbers within bounds, as a natural number -/
theorem tT_nat (I : cq_Inv none h) (T : tT h (41, 1, 78, 2)) : ∃ L : Nat, L ≤ 1600 ∧ h.2.2.2 41 1 = iv L ∧ h.2.2.2 78 2 = iv L := by
  obtain ⟨t, t1, t2⟩ := T
  obtain ⟨y, ey, a, c⟩ := ax_in I (c := 41) (j := 1) (l := 0) (u := 1600) (by decide +kernel) (by decide +kernel)
  have t1 : h.2.2.2 41 1 = .int t := t1
  have t2 : h.2.2.2 78 2 = .int t := t2
  rw [t1] at ey
  cases ey
  have e : Value.int t = iv (t.toInt.toNat : Int) := by
    rw [fx_of t]
    exact congrArg iv (by omega)
  exact ⟨t.toInt.toNat, by omega, t1.trans e, t2.trans e⟩
theorem tT_of (I : cq_Inv none h) {c j c' j' : Nat} {l u : Int} (q : (Nat.ble 40 c && Nat.blt c 130 && Nat.blt j (cq_fix c).2.2) = true) (e : cq_ty c j = (1, l, u, 0, 0, 0)) (v : h.2.2.2 c j = h.2.2.2 c' j') : tT h (c, j, c', j') := by
  obtain ⟨y, ey, -⟩ := ax_in I q e
  exact ⟨y, ey, v ▸ ey⟩
theorem ct_nil {m : cq_W} : cq_Fr m h h := ⟨Nat.le_refl _, fun _ _ => rfl, fun _ _ _ _ => rfl⟩
end OPB
