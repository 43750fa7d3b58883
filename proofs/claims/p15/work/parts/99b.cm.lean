/-! THE START: the plain machine on heaps that are data -/
abbrev dh_D : Type := Nat × Nat × List (Nat × am_Sh) × List (Nat × Nat × Value)
def dh_ls (k : Nat) : List (Nat × am_Sh) → Option am_Sh
  | [] => none
  | e :: r => bif Nat.beq e.1 k then some e.2 else dh_ls k r
def dh_lk (k j : Nat) : List (Nat × Nat × Value) → Option Value
  | [] => none
  | e :: r => bif Nat.beq e.1 k && Nat.beq e.2.1 j then some e.2.2 else dh_lk k j r
def dh_df (sh : am_Sh) (j : Nat) : Value := bif Nat.beq sh.1 0 then defaultValue (am_ty sh.2.1 j) else am_dv sh.2.1
def dh_h (L : Nat) (xs : Nat → Int32) (D : dh_D) : am_H := (D.1, D.2.1, (fun k => match dh_ls k D.2.2.1 with
  | some s => s
  | none => am_sh0 L k), (fun k j => match dh_lk k j D.2.2.2 with
  | some v => v
  | none => (match dh_ls k D.2.2.1 with
    | some s => dh_df s j
    | none => am_V0 xs k j)))
def dh_put (D : dh_D) (k j : Nat) (v : Value) : dh_D := (D.1, D.2.1, D.2.2.1, (k, j, v) :: D.2.2.2)
def dh_new (D : dh_D) (sh : am_Sh) (N : Nat) : Option dh_D := bif Nat.ble 40 D.1 && D.2.2.2.all (fun e => Nat.blt e.1 D.1) then some (D.1 + 1, D.2.1 + N, (D.1, sh) :: D.2.2.1, D.2.2.2) else none
theorem dh_bne {a b : Nat} (h : a ≠ b) : Nat.beq a b = false := by
  cases z : Nat.beq a b with
  | false => rfl
  | true => exact absurd (am_beq z) h
section CMA
variable {L : Nat} {xs : Nat → Int32} {D D' : dh_D}
theorem dh_put_ok (k j : Nat) (v : Value) : dh_h L xs (dh_put D k j v) = am_put (dh_h L xs D) k j v := by
  unfold dh_h dh_put am_put am_up
  dsimp only
  congr 3
  funext a b
  have e0 : dh_lk a b ((k, j, v) :: D.2.2.2) = bif Nat.beq k a && Nat.beq j b then some v else dh_lk a b D.2.2.2 := rfl
  rw [e0]
  by_cases e1 : a = k
  · rw [if_pos e1]
    subst e1
    by_cases e2 : b = j
    · rw [if_pos e2]
      subst e2
      rw [Nat.beq_refl, Nat.beq_refl]
      rfl
    · rw [if_neg e2, dh_bne (fun z => e2 z.symm), Bool.and_false]
      rfl
  · rw [if_neg e1, dh_bne (fun z => e1 z.symm), Bool.false_and]
    rfl
theorem dh_lk_none {k j : Nat} : ∀ {l : List (Nat × Nat × Value)}, (∀ e ∈ l, e.1 ≠ k) → dh_lk k j l = none
  | [], _ => rfl
  | e :: r, h => by
    unfold dh_lk
    rw [dh_bne (h e List.mem_cons_self), Bool.false_and]
    exact dh_lk_none fun x hx => h x (List.mem_cons_of_mem _ hx)
theorem dh_new_ok {sh : am_Sh} {N : Nat} {d : Nat → Value} (q : dh_new D sh N = some D') (hd : ∀ j, d j = dh_df sh j) : dh_h L xs D' = am_mk (dh_h L xs D) sh N d := by
  unfold dh_new at q
  rw [cond_eq_ite] at q
  split at q
  · rename_i hb
    have hb := (Bool.and_eq_true _ _ ▸ hb)
    have e := Option.some.inj q
    subst e
    unfold dh_h am_mk am_row
    dsimp only
    congr 3
    · funext k
      have e0 : dh_ls k ((D.1, sh) :: D.2.2.1) = bif Nat.beq D.1 k then some sh else dh_ls k D.2.2.1 := rfl
      rw [e0]
      by_cases e1 : k = D.1
      · rw [if_pos e1, e1, Nat.beq_refl]
        rfl
      · rw [if_neg e1, dh_bne (fun z => e1 z.symm)]
        rfl
    · funext k j
      by_cases e1 : k = D.1
      · rw [if_pos e1, e1]
        rw [dh_lk_none fun x hx => Nat.ne_of_lt (Nat.le_of_ble_eq_true (List.all_eq_true.1 hb.2 x hx))]
        have e0 : dh_ls D.1 ((D.1, sh) :: D.2.2.1) = bif Nat.beq D.1 D.1 then some sh else dh_ls D.1 D.2.2.1 := rfl
        rw [e0, Nat.beq_refl]
        exact (hd j).symm
      · rw [if_neg e1]
        have : dh_ls k ((D.1, sh) :: D.2.2.1) = dh_ls k D.2.2.1 := by
          show (bif Nat.beq D.1 k then some sh else dh_ls k D.2.2.1) = _
          rw [dh_bne (fun z => e1 z.symm)]
          rfl
        rw [this]
  · cases q
def dh_isO (D : dh_D) (a ci : Nat) : Bool := Nat.blt a D.1 && (match dh_ls a D.2.2.1 with
  | some sh => Nat.beq sh.1 0 && Nat.beq sh.2.1 ci
  | none => false)
def dh_isA (D : dh_D) (a tc : Nat) : Option Nat := bif Nat.blt a D.1 then (match dh_ls a D.2.2.1 with
  | some sh => bif Nat.beq sh.1 1 && Nat.beq sh.2.1 tc then some sh.2.2 else none
  | none => none) else none
theorem dh_isO_ok {a ci : Nat} (q : dh_isO D a ci = true) : am_isO (dh_h L xs D) a ci = true ∧ ∃ sh, dh_ls a D.2.2.1 = some sh := by
  have q := (Bool.and_eq_true _ _ ▸ q)
  have q2 := q.2
  split at q2
  · rename_i sh hs
    refine ⟨?_, sh, hs⟩
    unfold am_isO
    show (Nat.blt a D.1 && Nat.beq (match dh_ls a D.2.2.1 with
      | some s => s
      | none => am_sh0 L a).1 0 && Nat.beq (match dh_ls a D.2.2.1 with
      | some s => s
      | none => am_sh0 L a).2.1 ci) = true
    rw [hs, q.1]
    exact q2
  · cases q2
theorem dh_isA_ok {a tc n : Nat} (q : dh_isA D a tc = some n) : a < D.1 ∧ (dh_h L xs D).2.2.1 a = (1, tc, n) := by
  unfold dh_isA at q
  rw [cond_eq_ite] at q
  split at q
  · rename_i hb
    split at q
    · rename_i sh hs
      rw [cond_eq_ite] at q
      split at q
      · rename_i h2
        have h2 := (Bool.and_eq_true _ _ ▸ h2)
        have e := Option.some.inj q
        refine ⟨Nat.le_of_ble_eq_true hb, ?_⟩
        show (match dh_ls a D.2.2.1 with
          | some s => s
          | none => am_sh0 L a) = (1, tc, n)
        rw [hs]
        obtain ⟨s1, s2, s3⟩ := sh
        have z1 := am_beq h2.1
        have z2 := am_beq h2.2
        dsimp only at z1 z2 e
        show (s1, s2, s3) = _
        rw [z1, z2, e]
      · cases q
    · cases q
  · cases q
def dh_val (D : dh_D) (a j : Nat) : Value := match dh_lk a j D.2.2.2 with
  | some v => v
  | none => (match dh_ls a D.2.2.1 with
    | some s => dh_df s j
    | none => .null)
theorem dh_val_ok {a j : Nat} {sh : am_Sh} (hs : dh_ls a D.2.2.1 = some sh) : (dh_h L xs D).2.2.2 a j = dh_val D a j := by
  show (match dh_lk a j D.2.2.2 with
    | some v => v
    | none => (match dh_ls a D.2.2.1 with
      | some s => dh_df s j
      | none => am_V0 xs a j)) = dh_val D a j
  unfold dh_val
  rw [hs]
end CMA
/-- steps that don't touch the heap -/
def dh_pi (i : Instr) : Bool := match i with
  | .aload_n _ => true
  | .iload_n _ => true
  | .bipush _ => true
  | .iconst _ => true
  | .sipush _ => true
  | .dup => true
  | .istore_n _ => true
  | .if_icmp _ _ => true
  | .goto _ => true
  | .iinc _ _ => true
  | .getstatic _ => true
  | .aconst_null => true
  | .iadd => true
  | _ => false
theorem dh_pi_ok {e : am_E} {pc : Nat} {ls st : List Value} {h h' : am_H} (q : dh_pi e.1 = true) : am_st e pc ls st h' = (am_st e pc ls st h).map fun x => (x.1, x.2.1, x.2.2.1, h') := by
  obtain ⟨i, r⟩ := e
  cases i
  all_goals first
    | exact absurd q Bool.false_ne_true
    | skip
  case iconst => rfl
  case bipush => rfl
  case sipush => rfl
  case goto => rfl
  case aconst_null => rfl
  case getstatic => rfl
  case iload_n k =>
    dsimp only [am_st]
    split <;> rfl
  case aload_n k =>
    dsimp only [am_st]
    split <;> rfl
  case istore_n k =>
    dsimp only [am_st]
    split
    · rw [cond_eq_ite]
      split
      · rename_i hb
        rw [hb]
        rfl
      · rename_i hb
        rw [cond_eq_ite, if_neg hb]
        rfl
    · rfl
  case iinc k n =>
    dsimp only [am_st]
    split <;> rfl
  case iadd =>
    dsimp only [am_st]
    split <;> rfl
  case dup =>
    dsimp only [am_st]
    split
    · rw [cond_eq_ite]
      split
      · rename_i hb
        rw [hb]
        rfl
      · rename_i hb
        rw [cond_eq_ite, if_neg hb]
        rfl
    · rfl
  case if_icmp c k =>
    dsimp only [am_st]
    split
    · cases c <;> dsimp only <;> split <;> rfl
    · rfl
def dh_x : am_H := (0, 0, (fun _ => (0, 0, 0)), (fun _ _ => .null))
def dh_st (e : am_E) (pc : Nat) (ls st : List Value) (D : dh_D) : Option (Nat × List Value × List Value × dh_D) := bif dh_pi e.1 then (match am_st e pc ls st dh_x with
    | some x => some (x.1, x.2.1, x.2.2.1, D)
    | none => none)
  else (match e.1 with
    | .getfield _ => (match st with
      | .ref a :: r => bif dh_isO D a e.2.2.2.1 then some (pc + 3, ls, dh_val D a e.2.2.2.2.1 :: r, D) else none
      | _ => none)
    | .putfield _ => (match st with
      | v :: .ref a :: r => bif dh_isO D a e.2.2.2.1 && am_fok (am_ty e.2.2.2.1 e.2.2.2.2.1) v then some (pc + 3, ls, r, dh_put D a e.2.2.2.2.1 v) else none
      | _ => none)
    | .iaload => (match st with
      | .int i :: .ref a :: r => bif Nat.ble 1 a && Nat.blt a 7 && Nat.ble 40 D.1 && decide (0 ≤ i.toInt) && decide (i.toInt < 7) && (dh_ls a D.2.2.1).isNone && (dh_lk a i.toInt.toNat D.2.2.2).isNone then some (pc + 1, ls, .int (am_sv a i.toInt.toNat) :: r, D) else none
      | _ => none)
    | .iastore => (match st with
      | .int x :: .int i :: .ref a :: r => (match dh_isA D a 0 with
        | some n => bif decide (0 ≤ i.toInt) && decide (i.toInt < n) then some (pc + 1, ls, r, dh_put D a i.toInt.toNat (.int x)) else none
        | none => none)
      | _ => none)
    | .arraylength => (match st with
      | .ref a :: r => (match dh_isA D a 0 with
        | some n => some (pc + 1, ls, .int (Int32.ofNat n) :: r, D)
        | none => none)
      | _ => none)
    | .new _ => (match dh_new D (0, e.2.2.2.1, am_N e.2.2.2.1) (am_N e.2.2.2.1) with
      | some D' => some (pc + 3, ls, .ref D.1 :: st, D')
      | none => none)
    | .newarray _ => (match st with
      | .int n :: r => bif decide (0 ≤ n.toInt) && decide (n.toInt ≤ 100000) then (match dh_new D (1, e.2.2.2.1, n.toInt.toNat) n.toInt.toNat with
        | some D' => some (pc + 2, ls, .ref D.1 :: r, D')
        | none => none) else none
      | _ => none)
    | .anewarray _ => (match st with
      | .int n :: r => bif decide (0 ≤ n.toInt) && decide (n.toInt ≤ 100000) && Nat.ble 4 e.2.2.2.1 then (match dh_new D (1, e.2.2.2.1, n.toInt.toNat) n.toInt.toNat with
        | some D' => some (pc + 3, ls, .ref D.1 :: r, D')
        | none => none) else none
      | _ => none)
    | _ => none)
section CMB
variable {L : Nat} {xs : Nat → Int32} {D : dh_D}
theorem dh_neg {n : Int32} (h : 0 ≤ n.toInt) : ¬ (n < 0) := fun z => by
  have := Int32.lt_iff_toInt_lt.1 z
  rw [show (0 : Int32).toInt = 0 by decide] at this
  omega
theorem dh_st_ok {e : am_E} {pc : Nat} {ls st : List Value} {x : Nat × List Value × List Value × dh_D} (q : dh_st e pc ls st D = some x) : am_st e pc ls st (dh_h L xs D) = some (x.1, x.2.1, x.2.2.1, dh_h L xs x.2.2.2) := by
  unfold dh_st at q
  cases hp : dh_pi e.1 with
  | true =>
    rw [hp] at q
    simp only [cond_true] at q
    rw [dh_pi_ok (h := dh_x) hp]
    split at q
    · rename_i y hy
      rw [hy]
      cases q
      rfl
    · cases q
  | false =>
    rw [hp] at q
    simp only [cond_false] at q
    obtain ⟨i, l, t, ci, b, w⟩ := e
    dsimp only at q hp ⊢
    split at q
    · split at q
      · rename_i a r
        rw [cond_eq_ite] at q
        split at q
        · rename_i ho
          cases q
          obtain ⟨o1, sh, hs⟩ := dh_isO_ok (L := L) (xs := xs) ho
          dsimp only [am_st]
          rw [o1, dh_val_ok hs]
          rfl
        · cases q
      · cases q
    · split at q
      · rename_i v a r
        rw [cond_eq_ite] at q
        split at q
        · rename_i ho
          have ho := (Bool.and_eq_true _ _ ▸ ho)
          cases q
          obtain ⟨o1, sh, hs⟩ := dh_isO_ok (L := L) (xs := xs) ho.1
          dsimp only [am_st]
          rw [o1, ho.2, dh_put_ok]
          rfl
        · cases q
      · cases q
    · split at q
      · rename_i i a r
        rw [cond_eq_ite] at q
        split at q
        · rename_i hb
          have b1 := (Bool.and_eq_true _ _ ▸ hb)
          have b2 := (Bool.and_eq_true _ _ ▸ b1.1)
          have b3 := (Bool.and_eq_true _ _ ▸ b2.1)
          have b4 := (Bool.and_eq_true _ _ ▸ b3.1)
          have b5 := (Bool.and_eq_true _ _ ▸ b4.1)
          have b6 := (Bool.and_eq_true _ _ ▸ b5.1)
          have a1 := Nat.le_of_ble_eq_true b6.1
          have a7 : a < 7 := Nat.le_of_ble_eq_true b6.2
          have h40 := Nat.le_of_ble_eq_true b5.2
          have a0 : a ≠ 0 := Nat.ne_of_gt a1
          have aD : a < D.1 := Nat.lt_of_lt_of_le a7 (Nat.le_trans (by decide : 7 ≤ 40) h40)
          have i0 : 0 ≤ i.toInt := of_decide_eq_true b4.2
          have i1 : i.toInt < 7 := of_decide_eq_true b3.2
          have n1 := Option.isNone_iff_eq_none.1 b2.2
          have n2 := Option.isNone_iff_eq_none.1 b1.2
          cases q
          have sh : (dh_h L xs D).2.2.1 a = (2, 0, 7) := by
            show (match dh_ls a D.2.2.1 with
              | some s => s
              | none => am_sh0 L a) = _
            rw [n1]
            unfold am_sh0
            dsimp only
            rw [dh_bne a0, show Nat.blt a 7 = true from Nat.ble_eq_true_of_le a7]
            rfl
          have vl : (dh_h L xs D).2.2.2 a i.toInt.toNat = .int (am_sv a i.toInt.toNat) := by
            show (match dh_lk a i.toInt.toNat D.2.2.2 with
              | some v => v
              | none => (match dh_ls a D.2.2.1 with
                | some s => dh_df s i.toInt.toNat
                | none => am_V0 xs a i.toInt.toNat)) = _
            rw [n2, n1]
            unfold am_V0
            rw [dh_bne a0]
            rfl
          have rd : am_rd (dh_h L xs D) a i (fun c => Nat.beq c 0) = some (.int (am_sv a i.toInt.toNat)) := by
            unfold am_rd
            rw [sh, show Nat.blt a (dh_h L xs D).1 = true from Nat.ble_eq_true_of_le aD]
            rw [if_neg]
            · show some ((dh_h L xs D).2.2.2 a i.toInt.toNat) = _
              rw [vl]
            · rintro (z | z)
              · exact dh_neg i0 z
              · have z : 7 ≤ i.toInt.toNat := z
                omega
          dsimp only [am_st]
          rw [rd]
        · cases q
      · cases q
    · split at q
      · rename_i x i a r
        split at q
        · rename_i n hA
          rw [cond_eq_ite] at q
          split at q
          · rename_i hb
            have hb := (Bool.and_eq_true _ _ ▸ hb)
            cases q
            obtain ⟨l1, s1⟩ := dh_isA_ok (L := L) (xs := xs) hA
            have wr : am_wr (dh_h L xs D) a i 0 (.int x) = some (am_put (dh_h L xs D) a i.toInt.toNat (.int x)) := hd_wrS l1 s1 (of_decide_eq_true hb.1) (of_decide_eq_true hb.2)
            dsimp only [am_st]
            rw [wr, dh_put_ok]
          · cases q
        · cases q
      · cases q
    · split at q
      · rename_i a r
        split at q
        · rename_i n hA
          cases q
          obtain ⟨l1, s1⟩ := dh_isA_ok (L := L) (xs := xs) hA
          have ln : am_len (dh_h L xs D) a = some n := by
            unfold am_len
            rw [s1, show Nat.blt a (dh_h L xs D).1 = true from Nat.ble_eq_true_of_le l1]
            rfl
          dsimp only [am_st]
          rw [ln]
        · cases q
      · cases q
    · split at q
      · rename_i D' hn
        cases q
        dsimp only [am_st]
        rw [dh_new_ok hn (d := fun j => defaultValue (am_ty ci j)) (fun j => rfl)]
        rfl
      · cases q
    · split at q
      · rename_i n r
        rw [cond_eq_ite] at q
        split at q
        · rename_i hb
          have hb := (Bool.and_eq_true _ _ ▸ hb)
          have n0 : 0 ≤ n.toInt := of_decide_eq_true hb.1
          have n1 : n.toInt ≤ 100000 := of_decide_eq_true hb.2
          split at q
          · rename_i D' hn
            cases q
            dsimp only [am_st]
            rw [if_neg (fun z => z.elim (dh_neg n0) (fun z => by have z : 100000 < n.toInt.toNat := z; omega))]
            rw [dh_new_ok hn (d := fun _ => am_dv ci) (fun j => rfl)]
            rfl
          · cases q
        · cases q
      · cases q
    · split at q
      · rename_i n r
        rw [cond_eq_ite] at q
        split at q
        · rename_i hb
          have hb := (Bool.and_eq_true _ _ ▸ hb)
          have hb1 := (Bool.and_eq_true _ _ ▸ hb.1)
          have n0 : 0 ≤ n.toInt := of_decide_eq_true hb1.1
          have n1 : n.toInt ≤ 100000 := of_decide_eq_true hb1.2
          split at q
          · rename_i D' hn
            cases q
            dsimp only [am_st]
            rw [if_neg (fun z => z.elim (dh_neg n0) (fun z => by have z : 100000 < n.toInt.toNat := z; omega))]
            have c4 := Nat.le_of_ble_eq_true hb.2
            rw [dh_new_ok hn (d := fun _ => .null) (fun j => by
              show Value.null = am_dv ci
              obtain ⟨c5, rfl⟩ : ∃ c5, ci = c5 + 4 := ⟨ci - 4, by omega⟩
              rfl)]
            rfl
          · cases q
        · cases q
      · cases q
    · cases q
end CMB
