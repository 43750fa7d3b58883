/-! THE START, 2: runs on heaps that are data -/
def dh_m7 (D : dh_D) (b : Nat) : Bool := match dh_isA D b 0 with
  | some m => Nat.beq m 7
  | none => false
def dh_cp (D : dh_D) (a : Nat) (sp : Int32) (b : Nat) (dp n : Int32) : Option dh_D := bif Nat.ble 1 a && Nat.blt a 7 && Nat.ble 40 D.1 && decide (sp = 0) && decide (dp = 0) && decide (n = 7) && (dh_ls a D.2.2.1).isNone && (List.range 7).all (fun j => (dh_lk a j D.2.2.2).isNone) && dh_m7 D b then some (dh_put (dh_put (dh_put (dh_put (dh_put (dh_put (dh_put D b 0 (.int (am_sv a 0))) b 1 (.int (am_sv a 1))) b 2 (.int (am_sv a 2))) b 3 (.int (am_sv a 3))) b 4 (.int (am_sv a 4))) b 5 (.int (am_sv a 5))) b 6 (.int (am_sv a 6))) else none
def dh_stop (D : dh_D) (a : Nat) : dh_D := dh_put (dh_put (dh_put (dh_put D a 0 .null) a 1 .null) a 2 .null) a 3 .null
abbrev dh_F : Type := Nat → Nat → Nat → List Value → List Value → dh_D → Option (Option Value × dh_D)
def dh_rcv (z : Nat) (as : List Value) (D : dh_D) : Bool := match (am_in z).2.2.2 with
  | 1 => true
  | 2 => (match as with
    | .ref _ :: _ => true
    | _ => false)
  | _ => (match as with
    | .ref k :: _ => dh_isO D k (am_in z).1
    | _ => false)
def dh_cal (rec : dh_F) (d y pc : Nat) (ls st : List Value) (D : dh_D) (e : am_E) : Option (Option Value × dh_D) := match d with
  | 0 => none
  | d' + 1 => bif Nat.beq e.2.2.2.1 1000 then (match st with
      | .ref _ :: r => bif Nat.ble (am_cs r) 8 then rec (d' + 1) y (pc + 3) ls r D else none
      | _ => none)
    else bif Nat.beq e.2.2.2.1 1001 then (match st with
      | .int n :: .int dp :: .ref b :: .int sp :: .ref a :: r => bif Nat.ble (am_cs r) 8 then (match dh_cp D a sp b dp n with
        | some D' => rec (d' + 1) y (pc + 3) ls r D'
        | none => none) else none
      | _ => none)
    else bif Nat.beq e.2.2.2.1 1002 then (match st with
      | .ref a :: r => bif Nat.ble (am_cs r) 8 && dh_isO D a 12 && Nat.ble 3 d' then rec (d' + 1) y (pc + 3) ls r (dh_stop D a) else none
      | _ => none)
    else bif Nat.beq e.2.2.2.1 10 then (match st with
      | .int b :: .int a :: r => bif Nat.ble (am_cs r) 8 && Nat.beq e.2.2.2.2.1 0 then rec (d' + 1) y (pc + 3) ls (.int (if a < b then b else a) :: r) D else none
      | _ => none)
    else bif Nat.blt e.2.2.2.1 264 && !Nat.beq e.2.2.2.1 57 && Nat.blt 0 e.2.2.2.1 && Nat.ble (am_in e.2.2.2.1).2.1 st.length && Nat.ble (am_cs (st.drop (am_in e.2.2.2.1).2.1)) 8 && dh_rcv e.2.2.2.1 (st.take (am_in e.2.2.2.1).2.1).reverse D && Nat.ble (am_wid (st.take (am_in e.2.2.2.1).2.1).reverse).length (am_in e.2.2.2.1).2.2.1 then
      (match rec d' e.2.2.2.1 0 (am_ent (st.take (am_in e.2.2.2.1).2.1).reverse (am_in e.2.2.2.1).2.2.1) [] D with
      | some (v, D') => (match am_isT v with
        | some _ => none
        | none => rec (d' + 1) y (pc + 3) ls (v.toList ++ st.drop (am_in e.2.2.2.1).2.1) D')
      | none => none)
    else none
def dh_one (rec : dh_F) (d y pc : Nat) (ls st : List Value) (D : dh_D) : Option (Option Value × dh_D) := match (bif Nat.blt y am_NM && Nat.blt pc (am_bd y) then am_code y pc else none) with
  | none => none
  | some e => (match e.1 with
    | .ireturn => (match st with
      | [.int v] => bif am_rok (am_rt y) v then some (some (.int v), D) else none
      | _ => none)
    | .return_ => (match st with
      | [] => some (none, D)
      | _ => none)
    | .invokestatic _ => dh_cal rec d y pc ls st D e
    | .invokevirtual _ => dh_cal rec d y pc ls st D e
    | .invokespecial _ => dh_cal rec d y pc ls st D e
    | .lreturn => none
    | .areturn => none
    | .athrow => none
    | _ => (match dh_st e pc ls st D with
      | some (pc', ls', st', D') => rec d y pc' ls' st' D'
      | none => none))
def dh_run (n : Nat) : dh_F := Nat.rec (fun _ _ _ _ _ _ => none) (fun _ rec => dh_one rec) n
section CMC
variable {L : Nat} {xs : Nat → Int32} {D D' : dh_D}
theorem dh_row7 {h : am_H} {b : Nat} {s : Nat → Value} : ((h.1, h.2.1, h.2.2.1, am_row h.2.2.2 b (fun j => if (0 : Int32).toNatClampNeg ≤ j ∧ j < (0 : Int32).toNatClampNeg + (7 : Int32).toNatClampNeg then s j else h.2.2.2 b j)) : am_H) = am_put (am_put (am_put (am_put (am_put (am_put (am_put h b 0 (s 0)) b 1 (s 1)) b 2 (s 2)) b 3 (s 3)) b 4 (s 4)) b 5 (s 5)) b 6 (s 6) := by
  unfold am_put am_up am_row
  dsimp only
  congr 3
  funext k j
  have e0 : (0 : Int32).toNatClampNeg = 0 := by decide
  have e7 : (7 : Int32).toNatClampNeg = 7 := by decide
  rw [e0, e7]
  by_cases e : k = b
  · subst e
    rcases (show j = 0 ∨ j = 1 ∨ j = 2 ∨ j = 3 ∨ j = 4 ∨ j = 5 ∨ j = 6 ∨ 7 ≤ j by omega) with z | z | z | z | z | z | z | z
    · subst z; simp
    · subst z; simp
    · subst z; simp
    · subst z; simp
    · subst z; simp
    · subst z; simp
    · subst z; simp
    · have c0 : j ≠ 0 := by omega
      have c1 : j ≠ 1 := by omega
      have c2 : j ≠ 2 := by omega
      have c3 : j ≠ 3 := by omega
      have c4 : j ≠ 4 := by omega
      have c5 : j ≠ 5 := by omega
      have c6 : j ≠ 6 := by omega
      have c7 : ¬ j < 7 := by omega
      simp [c0, c1, c2, c3, c4, c5, c6, c7]
  · simp only [if_neg e]
theorem dh_cp_ok {a b : Nat} {sp dp n : Int32} (q : dh_cp D a sp b dp n = some D') : am_cp (dh_h L xs D) a sp b dp n = some (dh_h L xs D') := by
  unfold dh_cp at q
  rw [cond_eq_ite] at q
  split at q
  · rename_i hb
    have b1 := (Bool.and_eq_true _ _ ▸ hb)
    have b2 := (Bool.and_eq_true _ _ ▸ b1.1)
    have b3 := (Bool.and_eq_true _ _ ▸ b2.1)
    have b4 := (Bool.and_eq_true _ _ ▸ b3.1)
    have b5 := (Bool.and_eq_true _ _ ▸ b4.1)
    have b6 := (Bool.and_eq_true _ _ ▸ b5.1)
    have b7 := (Bool.and_eq_true _ _ ▸ b6.1)
    have b8 := (Bool.and_eq_true _ _ ▸ b7.1)
    have a1 := Nat.le_of_ble_eq_true b8.1
    have a7 : a < 7 := Nat.le_of_ble_eq_true b8.2
    have h40 := Nat.le_of_ble_eq_true b7.2
    have e1 : sp = 0 := of_decide_eq_true b6.2
    have e2 : dp = 0 := of_decide_eq_true b5.2
    have e3 : n = 7 := of_decide_eq_true b4.2
    have n1 := Option.isNone_iff_eq_none.1 b3.2
    subst e1 e2 e3
    have e := Option.some.inj q
    have bA := b1.2
    unfold dh_m7 at bA
    split at bA
    · rename_i m hA
      have m7 := am_beq bA
      subst m7
      obtain ⟨l1, s1⟩ := dh_isA_ok (L := L) (xs := xs) hA
      have a0 : a ≠ 0 := Nat.ne_of_gt a1
      have aD : a < D.1 := Nat.lt_of_lt_of_le a7 (Nat.le_trans (by decide : 7 ≤ 40) h40)
      have sh : (dh_h L xs D).2.2.1 a = (2, 0, 7) := by
        show (match dh_ls a D.2.2.1 with
          | some s => s
          | none => am_sh0 L a) = _
        rw [n1]
        unfold am_sh0
        dsimp only
        rw [dh_bne a0, show Nat.blt a 7 = true from Nat.ble_eq_true_of_le a7]
        rfl
      have vl : ∀ j, j < 7 → (dh_h L xs D).2.2.2 a j = .int (am_sv a j) := fun j hj => by
        have n2 := Option.isNone_iff_eq_none.1 (List.all_eq_true.1 b2.2 j (List.mem_range.2 hj))
        show (match dh_lk a j D.2.2.2 with
          | some v => v
          | none => (match dh_ls a D.2.2.1 with
            | some s => dh_df s j
            | none => am_V0 xs a j)) = _
        rw [n2, n1]
        unfold am_V0
        rw [dh_bne a0]
        rfl
      unfold am_cp
      rw [sh, s1, show Nat.blt a (dh_h L xs D).1 = true from Nat.ble_eq_true_of_le aD, show Nat.blt b (dh_h L xs D).1 = true from Nat.ble_eq_true_of_le l1]
      have e0 : (0 : Int32).toNatClampNeg = 0 := by decide
      have e7 : (7 : Int32).toNatClampNeg = 7 := by decide
      have al : ((List.range (7 : Int32).toNatClampNeg).all fun i => am_isI ((dh_h L xs D).2.2.2 a ((0 : Int32).toNatClampNeg + i))) = true := by
        rw [List.all_eq_true]
        intro i hi
        rw [e7] at hi
        have hi := List.mem_range.1 hi
        rw [e0, Nat.zero_add, vl i hi]
        rfl
      rw [al]
      rw [if_neg (by decide)]
      simp only [Nat.beq_refl, Bool.or_true, Bool.and_self, cond_true]
      rw [← e]
      simp only [dh_put_ok]
      rw [← dh_row7 (h := dh_h L xs D) (b := b) (s := fun j => .int (am_sv a j))]
      congr 5
      funext j
      rw [e0, e7]
      by_cases c : 0 ≤ j ∧ j < 0 + 7
      · rw [if_pos c, if_pos c, Nat.sub_zero, Nat.zero_add]
        exact vl j (by omega)
      · rw [if_neg c, if_neg c]
    · cases bA
  · cases q
theorem dh_stop_ok {a : Nat} : am_stop (dh_h L xs D) a = dh_h L xs (dh_stop D a) := by
  unfold dh_stop
  simp only [dh_put_ok]
  generalize dh_h L xs D = h
  unfold am_stop am_put am_up am_row
  dsimp only
  congr 3
  funext k j
  by_cases e : k = a
  · subst e
    rcases (show j = 0 ∨ j = 1 ∨ j = 2 ∨ j = 3 ∨ 4 ≤ j by omega) with z | z | z | z | z
    · subst z; simp [Nat.blt]; rfl
    · subst z; simp [Nat.blt]; rfl
    · subst z; simp [Nat.blt]; rfl
    · subst z; simp [Nat.blt]; rfl
    · have : Nat.blt j 4 = false := by
        cases w : Nat.blt j 4 with
        | false => rfl
        | true =>
          have : j < 4 := Nat.le_of_ble_eq_true w
          omega
      have c0 : j ≠ 0 := by omega
      have c1 : j ≠ 1 := by omega
      have c2 : j ≠ 2 := by omega
      have c3 : j ≠ 3 := by omega
      simp [this, c0, c1, c2, c3]
  · simp only [if_neg e]
theorem dh_rcv_ok {z : Nat} {as : List Value} (q : dh_rcv z as D = true) : am_rcv z as (dh_h L xs D) = true := by
  unfold dh_rcv at q
  unfold am_rcv
  generalize (am_in z).2.2.2 = m at q ⊢
  split at q
  · rfl
  · skip
    cases as with
    | nil => cases q
    | cons v r => cases v <;> first | rfl | cases q
  · rename_i n1 n2
    cases as with
    | nil => cases q
    | cons v r =>
      cases v <;> first | cases q | skip
      split
      · rfl
      · rfl
      · exact (dh_isO_ok q).1
def dh_Q (L : Nat) (xs : Nat → Int32) (rd : dh_F) (ra : am_F) : Prop := ∀ d y pc ls st D v D', rd d y pc ls st D = some (v, D') → ra d y pc ls st (dh_h L xs D) = some (v, dh_h L xs D')
theorem dh_cal_ok {rd : dh_F} {ra : am_F} (ih : dh_Q L xs rd ra) {d y pc : Nat} {ls st : List Value} {e : am_E} {v : Option Value} (q : dh_cal rd d y pc ls st D e = some (v, D')) : am_cal ra d y pc ls st (dh_h L xs D) e = some (v, dh_h L xs D') := by
  unfold dh_cal at q
  split at q
  · cases q
  · rename_i d'
    unfold am_cal am_cal0
    generalize e.2.2.2.1 = z at q ⊢
    cases t1 : Nat.beq z 1000 with
    | true =>
      have z1 := am_beq t1
      subst z1
      rw [t1] at q
      simp only [cond_true] at q
      rw [show (Nat.beq 1000 1003 || Nat.beq 1000 1004) = false by decide]
      simp only [cond_false, cond_true]
      split at q
      · rw [cond_eq_ite] at q
        split at q
        · rename_i hc
          dsimp only
          rw [hc]
          exact ih _ _ _ _ _ _ _ _ q
        · cases q
      · cases q
    | false =>
    rw [t1] at q
    simp only [cond_false] at q
    cases t2 : Nat.beq z 1001 with
    | true =>
      have z1 := am_beq t2
      subst z1
      rw [t2] at q
      simp only [cond_true] at q
      rw [show (Nat.beq 1001 1003 || Nat.beq 1001 1004) = false by decide]
      simp only [cond_false, cond_true]
      split at q
      · rw [cond_eq_ite] at q
        split at q
        · rename_i hc
          split at q
          · rename_i D1 hcp
            dsimp only
            rw [hc, dh_cp_ok hcp]
            exact ih _ _ _ _ _ _ _ _ q
          · cases q
        · cases q
      · cases q
    | false =>
    rw [t2] at q
    simp only [cond_false] at q
    cases t3 : Nat.beq z 1002 with
    | true =>
      have z1 := am_beq t3
      subst z1
      rw [t3] at q
      simp only [cond_true] at q
      rw [show (Nat.beq 1002 1003 || Nat.beq 1002 1004) = false by decide]
      simp only [cond_false, cond_true]
      split at q
      · rw [cond_eq_ite] at q
        split at q
        · rename_i hc
          have hc1 := (Bool.and_eq_true _ _ ▸ hc)
          have hc2 := (Bool.and_eq_true _ _ ▸ hc1.1)
          dsimp only
          rw [hc2.1, (dh_isO_ok hc2.2).1, hc1.2, dh_stop_ok]
          exact ih _ _ _ _ _ _ _ _ q
        · cases q
      · cases q
    | false =>
    rw [t3] at q
    simp only [cond_false] at q
    cases t4 : Nat.beq z 10 with
    | true =>
      have z1 := am_beq t4
      subst z1
      rw [t4] at q
      simp only [cond_true] at q
      rw [show (Nat.beq 10 1003 || Nat.beq 10 1004) = false by decide]
      simp only [cond_false, cond_true]
      split at q
      · rw [cond_eq_ite] at q
        split at q
        · rename_i hc
          dsimp only
          rw [hc]
          exact ih _ _ _ _ _ _ _ _ q
        · cases q
      · cases q
    | false =>
    rw [t4] at q
    simp only [cond_false] at q
    rw [cond_eq_ite] at q
    split at q
    · rename_i hb
      have b1 := (Bool.and_eq_true _ _ ▸ hb)
      have b2 := (Bool.and_eq_true _ _ ▸ b1.1)
      have b3 := (Bool.and_eq_true _ _ ▸ b2.1)
      have b4 := (Bool.and_eq_true _ _ ▸ b3.1)
      have b5 := (Bool.and_eq_true _ _ ▸ b4.1)
      have b6 := (Bool.and_eq_true _ _ ▸ b5.1)
      have hz : z < 264 := Nat.le_of_ble_eq_true b6.1
      rw [dh_bne (show z ≠ 1003 by omega), dh_bne (show z ≠ 1004 by omega)]
      rw [b5.2, b4.2, b3.2, dh_rcv_ok b2.2, b1.2, cq_nb b6.2]
      simp only [Bool.or_self, cond_false, Bool.and_self, cond_true]
      split at q
      · rename_i w D1 hr
        rw [ih _ _ _ _ _ _ _ _ hr]
        dsimp only
        split at q
        · cases q
        · rename_i hT
          rw [hT]
          exact ih _ _ _ _ _ _ _ _ q
      · cases q
    · cases q
theorem dh_one_ok {rd : dh_F} {ra : am_F} (ih : dh_Q L xs rd ra) : dh_Q L xs (dh_one rd) (am_one ra) := by
  intro d y pc ls st D v D' q
  unfold dh_one at q
  unfold am_one
  split at q
  · cases q
  · rename_i e hc
    try simp only [hc]
    split at q
    · rename_i hi
      try simp only [hi]
      split at q
      · rw [cond_eq_ite] at q
        split at q
        · rename_i hr
          cases q
          dsimp only
          rw [hr]
          rfl
        · cases q
      · cases q
    · rename_i hi
      try simp only [hi]
      split at q
      · cases q
        rfl
      · cases q
    · rename_i i hi
      try simp only [hi]
      exact dh_cal_ok ih q
    · rename_i i hi
      try simp only [hi]
      exact dh_cal_ok ih q
    · rename_i i hi
      try simp only [hi]
      exact dh_cal_ok ih q
    · cases q
    · cases q
    · cases q
    · rename_i n1 n2 n3 n4 n5 n6 n7 n8
      split at q
      · rename_i pc' ls' st' D1 hst
        have k := dh_st_ok (L := L) (xs := xs) hst
        dsimp only at k
        split
        · rename_i z; exact absurd z n1
        · rename_i z; exact absurd z n6
        · rename_i z; exact absurd z n7
        · rename_i z; exact absurd z n2
        · rename_i z; exact absurd z n8
        · rename_i z; exact absurd z (n3 _)
        · rename_i z; exact absurd z (n4 _)
        · rename_i z; exact absurd z (n5 _)
        · rw [k]
          exact ih _ _ _ _ _ _ _ _ q
      · cases q
theorem dh_run_ok : ∀ n, dh_Q L xs (dh_run n) (am_run n)
  | 0 => fun _ _ _ _ _ _ _ _ q => by cases q
  | n + 1 => fun d y pc ls st D v D' q => dh_one_ok (dh_run_ok n) d y pc ls st D v D' q
end CMC
