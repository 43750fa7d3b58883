/-! THE START, 2: runs on heaps that are data -/
def dh_src (D : dh_D) (a j : Nat) : Option Int32 := bif Nat.ble 1 a && (dh_ls a D.2.2.1).isNone && (dh_lk a j D.2.2.2).isNone then some (am_sv a j) else (match dh_ls a D.2.2.1 with
  | some _ => (match dh_val D a j with
    | .int x => some x
    | _ => none)
  | none => none)
def dh_cpL (D : dh_D) (a b : Nat) : Nat → Option dh_D
  | 0 => some D
  | n + 1 => (match dh_cpL D a b n with
    | some D' => (match dh_src D a n with
      | some x => some (dh_put D' b n (.int x))
      | none => none)
    | none => none)
def dh_sA (D : dh_D) (a n : Nat) : Bool := (Nat.ble 1 a && Nat.blt a 7 && Nat.ble 40 D.1 && (dh_ls a D.2.2.1).isNone && Nat.ble n 7) || (match dh_isA D a 0 with
  | some m => Nat.ble n m
  | none => false)
def dh_dA (D : dh_D) (b n : Nat) : Bool := match dh_isA D b 0 with
  | some m => Nat.ble n m
  | none => false
def dh_cp (D : dh_D) (a : Nat) (sp : Int32) (b : Nat) (dp n : Int32) : Option dh_D := bif decide (sp = 0) && decide (dp = 0) && decide (0 ≤ n.toInt) && dh_sA D a n.toInt.toNat && dh_dA D b n.toInt.toNat then dh_cpL D a b n.toInt.toNat else none
def dh_stop (D : dh_D) (a : Nat) : dh_D := dh_put (dh_put (dh_put (dh_put D a 0 .null) a 1 .null) a 2 .null) a 3 .null
abbrev dh_F : Type := Nat → Nat → Nat → List Value → List Value → dh_D → Option (Option Value × dh_D)
def dh_rcv (z : Nat) (as : List Value) (D : dh_D) : Bool := match (am_in z).2.2.2 with
  | 1 => true
  | 2 => (match as with
    | .ref _ :: _ => true
    | _ => false)
  | _ => (match as with
    | .ref k :: _ => dh_isO D k (am_in z).1
    | _ => false)
def dh_cal (rec : dh_F) (d y pc : Nat) (ls st : List Value) (D : dh_D) (e : am_E) : Option (Option Value × dh_D) := match d with
  | 0 => none
  | d' + 1 => bif Nat.beq e.2.2.2.1 1000 then (match st with
      | .ref _ :: r => bif Nat.ble (am_cs r) 8 then rec (d' + 1) y (pc + 3) ls r D else none
      | _ => none)
    else bif Nat.beq e.2.2.2.1 1001 then (match st with
      | .int n :: .int dp :: .ref b :: .int sp :: .ref a :: r => bif Nat.ble (am_cs r) 8 then (match dh_cp D a sp b dp n with
        | some D' => rec (d' + 1) y (pc + 3) ls r D'
        | none => none) else none
      | _ => none)
    else bif Nat.beq e.2.2.2.1 1002 then (match st with
      | .ref a :: r => bif Nat.ble (am_cs r) 8 && dh_isO D a 12 && Nat.ble 3 d' then rec (d' + 1) y (pc + 3) ls r (dh_stop D a) else none
      | _ => none)
    else bif Nat.beq e.2.2.2.1 10 then (match st with
      | .int b :: .int a :: r => bif Nat.ble (am_cs r) 8 && Nat.beq e.2.2.2.2.1 0 then rec (d' + 1) y (pc + 3) ls (.int (if a < b then b else a) :: r) D else none
      | _ => none)
    else bif Nat.blt e.2.2.2.1 264 && !Nat.beq e.2.2.2.1 57 && Nat.blt 0 e.2.2.2.1 && Nat.ble (am_in e.2.2.2.1).2.1 st.length && Nat.ble (am_cs (st.drop (am_in e.2.2.2.1).2.1)) 8 && dh_rcv e.2.2.2.1 (st.take (am_in e.2.2.2.1).2.1).reverse D && Nat.ble (am_wid (st.take (am_in e.2.2.2.1).2.1).reverse).length (am_in e.2.2.2.1).2.2.1 then
      (match rec d' e.2.2.2.1 0 (am_ent (st.take (am_in e.2.2.2.1).2.1).reverse (am_in e.2.2.2.1).2.2.1) [] D with
      | some (v, D') => (match am_isT v with
        | some _ => none
        | none => rec (d' + 1) y (pc + 3) ls (v.toList ++ st.drop (am_in e.2.2.2.1).2.1) D')
      | none => none)
    else none
def dh_one (rec : dh_F) (d y pc : Nat) (ls st : List Value) (D : dh_D) : Option (Option Value × dh_D) := match (bif Nat.blt y am_NM && Nat.blt pc (am_bd y) then am_code y pc else none) with
  | none => none
  | some e => (match e.1 with
    | .ireturn => (match st with
      | [.int v] => bif am_rok (am_rt y) v then some (some (.int v), D) else none
      | _ => none)
    | .return_ => (match st with
      | [] => some (none, D)
      | _ => none)
    | .invokestatic _ => dh_cal rec d y pc ls st D e
    | .invokevirtual _ => dh_cal rec d y pc ls st D e
    | .invokespecial _ => dh_cal rec d y pc ls st D e
    | .lreturn => none
    | .areturn => none
    | .athrow => none
    | _ => (match dh_st e pc ls st D with
      | some (pc', ls', st', D') => rec d y pc' ls' st' D'
      | none => none))
def dh_run (n : Nat) : dh_F := Nat.rec (fun _ _ _ _ _ _ => none) (fun _ rec => dh_one rec) n
section CMC
variable {L : Nat} {xs : Nat → Int32} {D D' : dh_D}
theorem dh_src_ok {a j : Nat} {x : Int32} (q : dh_src D a j = some x) : (dh_h L xs D).2.2.2 a j = .int x := by
  unfold dh_src at q
  rw [cond_eq_ite] at q
  split at q
  · rename_i hb
    have b1 := (Bool.and_eq_true _ _ ▸ hb)
    have b2 := (Bool.and_eq_true _ _ ▸ b1.1)
    have a1 := Nat.le_of_ble_eq_true b2.1
    have n1 := Option.isNone_iff_eq_none.1 b2.2
    have n2 := Option.isNone_iff_eq_none.1 b1.2
    have a0 : a ≠ 0 := Nat.ne_of_gt a1
    rw [← Option.some.inj q]
    show (match dh_lk a j D.2.2.2 with
      | some v => v
      | none => (match dh_ls a D.2.2.1 with
        | some s => dh_df s j
        | none => am_V0 xs a j)) = _
    rw [n2, n1]
    unfold am_V0
    rw [dh_bne a0]
    rfl
  · split at q
    · rename_i sh hs
      split at q
      · rename_i y hv
        rw [← Option.some.inj q, dh_val_ok hs, hv]
      · cases q
    · cases q
theorem dh_cpL_ok {a b : Nat} : ∀ (n : Nat) {D' : dh_D}, dh_cpL D a b n = some D' → dh_h L xs D' = ((dh_h L xs D).1, (dh_h L xs D).2.1, (dh_h L xs D).2.2.1, am_row (dh_h L xs D).2.2.2 b (fun j => if j < n then (dh_h L xs D).2.2.2 a j else (dh_h L xs D).2.2.2 b j)) ∧ ∀ j, j < n → am_isI ((dh_h L xs D).2.2.2 a j) = true
  | 0, D', q => by
    have e := Option.some.inj q
    subst e
    refine ⟨?_, fun j hj => absurd hj (Nat.not_lt_zero j)⟩
    generalize dh_h L xs D = h
    obtain ⟨h1, h2, h3, h4⟩ := h
    dsimp only
    congr 3
    funext k j
    unfold am_row
    by_cases e : k = b
    · subst e; simp
    · simp [e]
  | n + 1, D', q => by
    unfold dh_cpL at q
    split at q
    · rename_i D1 h1
      split at q
      · rename_i x hx
        have e := Option.some.inj q
        subst e
        obtain ⟨k1, k2⟩ := dh_cpL_ok n h1
        have sx := dh_src_ok (L := L) (xs := xs) hx
        rw [dh_put_ok, k1]
        generalize dh_h L xs D = h at sx k2 ⊢
        refine ⟨?_, fun j hj => ?_⟩
        · unfold am_put am_up am_row
          dsimp only
          congr 3
          funext k j
          by_cases e : k = b
          · subst e
            by_cases ej : j = n
            · subst ej
              simp [sx]
            · have : (j < n + 1) = (j < n) := by
                apply propext
                constructor
                · intro z; omega
                · intro z; omega
              simp [ej, this]
          · simp [e]
        · rcases Nat.lt_succ_iff_lt_or_eq.1 hj with z | z
          · exact k2 j z
          · rw [z, sx]; rfl
      · cases q
    · cases q
theorem dh_sA_ok {a n : Nat} (q : dh_sA D a n = true) : Nat.blt a (dh_h L xs D).1 = true ∧ ((dh_h L xs D).2.2.1 a).2.1 = 0 ∧ (((dh_h L xs D).2.2.1 a).1 = 1 ∨ ((dh_h L xs D).2.2.1 a).1 = 2) ∧ n ≤ ((dh_h L xs D).2.2.1 a).2.2 := by
  rcases (Bool.or_eq_true _ _ ▸ q) with q | q
  · have b1 := (Bool.and_eq_true _ _ ▸ q)
    have b2 := (Bool.and_eq_true _ _ ▸ b1.1)
    have b3 := (Bool.and_eq_true _ _ ▸ b2.1)
    have b4 := (Bool.and_eq_true _ _ ▸ b3.1)
    have a1 := Nat.le_of_ble_eq_true b4.1
    have a7 : a < 7 := Nat.le_of_ble_eq_true b4.2
    have h40 := Nat.le_of_ble_eq_true b3.2
    have n1 := Option.isNone_iff_eq_none.1 b2.2
    have a0 : a ≠ 0 := Nat.ne_of_gt a1
    have aD : a < D.1 := Nat.lt_of_lt_of_le a7 (Nat.le_trans (by decide : 7 ≤ 40) h40)
    have sh : (dh_h L xs D).2.2.1 a = (2, 0, 7) := by
      show (match dh_ls a D.2.2.1 with
        | some s => s
        | none => am_sh0 L a) = _
      rw [n1]
      unfold am_sh0
      dsimp only
      rw [dh_bne a0, show Nat.blt a 7 = true from Nat.ble_eq_true_of_le a7]
      rfl
    rw [sh]
    exact ⟨Nat.ble_eq_true_of_le aD, rfl, Or.inr rfl, Nat.le_of_ble_eq_true b1.2⟩
  · split at q
    · rename_i m hA
      obtain ⟨l1, s1⟩ := dh_isA_ok (L := L) (xs := xs) hA
      rw [s1]
      exact ⟨Nat.ble_eq_true_of_le l1, rfl, Or.inl rfl, Nat.le_of_ble_eq_true q⟩
    · cases q
theorem dh_dA_ok {a n : Nat} (q : dh_dA D a n = true) : Nat.blt a (dh_h L xs D).1 = true ∧ ((dh_h L xs D).2.2.1 a).2.1 = 0 ∧ ((dh_h L xs D).2.2.1 a).1 = 1 ∧ n ≤ ((dh_h L xs D).2.2.1 a).2.2 := by
  unfold dh_dA at q
  split at q
  · rename_i m hA
    obtain ⟨l1, s1⟩ := dh_isA_ok (L := L) (xs := xs) hA
    rw [s1]
    exact ⟨Nat.ble_eq_true_of_le l1, rfl, rfl, Nat.le_of_ble_eq_true q⟩
  · cases q
theorem dh_cp_ok {a b : Nat} {sp dp n : Int32} (q : dh_cp D a sp b dp n = some D') : am_cp (dh_h L xs D) a sp b dp n = some (dh_h L xs D') := by
  unfold dh_cp at q
  rw [cond_eq_ite] at q
  split at q
  · rename_i hb
    have b1 := (Bool.and_eq_true _ _ ▸ hb)
    have b2 := (Bool.and_eq_true _ _ ▸ b1.1)
    have b3 := (Bool.and_eq_true _ _ ▸ b2.1)
    have b4 := (Bool.and_eq_true _ _ ▸ b3.1)
    have e1 : sp = 0 := of_decide_eq_true b4.1
    have e2 : dp = 0 := of_decide_eq_true b4.2
    have n0 : 0 ≤ n.toInt := of_decide_eq_true b3.2
    subst e1 e2
    obtain ⟨s1, s2, s3, s4⟩ := dh_sA_ok (L := L) (xs := xs) b2.2
    obtain ⟨d1, d2, d3, d4⟩ := dh_dA_ok (L := L) (xs := xs) b1.2
    obtain ⟨k1, k2⟩ := dh_cpL_ok (L := L) (xs := xs) _ q
    have eN : n.toNatClampNeg = n.toInt.toNat := rfl
    have e0 : (0 : Int32).toNatClampNeg = 0 := by decide
    unfold am_cp
    rw [s1, s2, d1, d2, d3, e0, eN, k1]
    rw [show (Nat.beq ((dh_h L xs D).2.2.1 a).1 1 || Nat.beq ((dh_h L xs D).2.2.1 a).1 2) = true by rcases s3 with z | z <;> (rw [z]; rfl)]
    have al : ((List.range n.toInt.toNat).all fun i => am_isI ((dh_h L xs D).2.2.2 a (0 + i))) = true := by
      rw [List.all_eq_true]
      intro i hi
      rw [Nat.zero_add]
      exact k2 i (List.mem_range.1 hi)
    rw [al]
    rw [if_neg]
    · simp only [Nat.beq_refl, Bool.and_self, cond_true, Nat.zero_add, Nat.sub_zero, Nat.zero_le, true_and]
    · rintro (z | z | z | z | z)
      · exact absurd z (by decide)
      · exact absurd z (by decide)
      · exact dh_neg n0 z
      · omega
      · omega
  · cases q
theorem dh_stop_ok {a : Nat} : am_stop (dh_h L xs D) a = dh_h L xs (dh_stop D a) := by
  unfold dh_stop
  simp only [dh_put_ok]
  generalize dh_h L xs D = h
  unfold am_stop am_put am_up am_row
  dsimp only
  congr 3
  funext k j
  by_cases e : k = a
  · subst e
    rcases (show j = 0 ∨ j = 1 ∨ j = 2 ∨ j = 3 ∨ 4 ≤ j by omega) with z | z | z | z | z
    · subst z; simp [Nat.blt]; rfl
    · subst z; simp [Nat.blt]; rfl
    · subst z; simp [Nat.blt]; rfl
    · subst z; simp [Nat.blt]; rfl
    · have : Nat.blt j 4 = false := by
        cases w : Nat.blt j 4 with
        | false => rfl
        | true =>
          have : j < 4 := Nat.le_of_ble_eq_true w
          omega
      have c0 : j ≠ 0 := by omega
      have c1 : j ≠ 1 := by omega
      have c2 : j ≠ 2 := by omega
      have c3 : j ≠ 3 := by omega
      simp [this, c0, c1, c2, c3]
  · simp only [if_neg e]
theorem dh_rcv_ok {z : Nat} {as : List Value} (q : dh_rcv z as D = true) : am_rcv z as (dh_h L xs D) = true := by
  unfold dh_rcv at q
  unfold am_rcv
  generalize (am_in z).2.2.2 = m at q ⊢
  split at q
  · rfl
  · skip
    cases as with
    | nil => cases q
    | cons v r => cases v <;> first | rfl | cases q
  · rename_i n1 n2
    cases as with
    | nil => cases q
    | cons v r =>
      cases v <;> first | cases q | skip
      split
      · rfl
      · rfl
      · exact (dh_isO_ok q).1
def dh_Q (L : Nat) (xs : Nat → Int32) (rd : dh_F) (ra : am_F) : Prop := ∀ d y pc ls st D v D', rd d y pc ls st D = some (v, D') → ra d y pc ls st (dh_h L xs D) = some (v, dh_h L xs D')
theorem dh_cal_ok {rd : dh_F} {ra : am_F} (ih : dh_Q L xs rd ra) {d y pc : Nat} {ls st : List Value} {e : am_E} {v : Option Value} (q : dh_cal rd d y pc ls st D e = some (v, D')) : am_cal ra d y pc ls st (dh_h L xs D) e = some (v, dh_h L xs D') := by
  unfold dh_cal at q
  split at q
  · cases q
  · rename_i d'
    unfold am_cal am_cal0
    generalize e.2.2.2.1 = z at q ⊢
    cases t1 : Nat.beq z 1000 with
    | true =>
      have z1 := am_beq t1
      subst z1
      rw [t1] at q
      simp only [cond_true] at q
      rw [show (Nat.beq 1000 1003 || Nat.beq 1000 1004) = false by decide]
      simp only [cond_false, cond_true]
      split at q
      · rw [cond_eq_ite] at q
        split at q
        · rename_i hc
          dsimp only
          rw [hc]
          exact ih _ _ _ _ _ _ _ _ q
        · cases q
      · cases q
    | false =>
    rw [t1] at q
    simp only [cond_false] at q
    cases t2 : Nat.beq z 1001 with
    | true =>
      have z1 := am_beq t2
      subst z1
      rw [t2] at q
      simp only [cond_true] at q
      rw [show (Nat.beq 1001 1003 || Nat.beq 1001 1004) = false by decide]
      simp only [cond_false, cond_true]
      split at q
      · rw [cond_eq_ite] at q
        split at q
        · rename_i hc
          split at q
          · rename_i D1 hcp
            dsimp only
            rw [hc, dh_cp_ok hcp]
            exact ih _ _ _ _ _ _ _ _ q
          · cases q
        · cases q
      · cases q
    | false =>
    rw [t2] at q
    simp only [cond_false] at q
    cases t3 : Nat.beq z 1002 with
    | true =>
      have z1 := am_beq t3
      subst z1
      rw [t3] at q
      simp only [cond_true] at q
      rw [show (Nat.beq 1002 1003 || Nat.beq 1002 1004) = false by decide]
      simp only [cond_false, cond_true]
      split at q
      · rw [cond_eq_ite] at q
        split at q
        · rename_i hc
          have hc1 := (Bool.and_eq_true _ _ ▸ hc)
          have hc2 := (Bool.and_eq_true _ _ ▸ hc1.1)
          dsimp only
          rw [hc2.1, (dh_isO_ok hc2.2).1, hc1.2, dh_stop_ok]
          exact ih _ _ _ _ _ _ _ _ q
        · cases q
      · cases q
    | false =>
    rw [t3] at q
    simp only [cond_false] at q
    cases t4 : Nat.beq z 10 with
    | true =>
      have z1 := am_beq t4
      subst z1
      rw [t4] at q
      simp only [cond_true] at q
      rw [show (Nat.beq 10 1003 || Nat.beq 10 1004) = false by decide]
      simp only [cond_false, cond_true]
      split at q
      · rw [cond_eq_ite] at q
        split at q
        · rename_i hc
          dsimp only
          rw [hc]
          exact ih _ _ _ _ _ _ _ _ q
        · cases q
      · cases q
    | false =>
    rw [t4] at q
    simp only [cond_false] at q
    rw [cond_eq_ite] at q
    split at q
    · rename_i hb
      have b1 := (Bool.and_eq_true _ _ ▸ hb)
      have b2 := (Bool.and_eq_true _ _ ▸ b1.1)
      have b3 := (Bool.and_eq_true _ _ ▸ b2.1)
      have b4 := (Bool.and_eq_true _ _ ▸ b3.1)
      have b5 := (Bool.and_eq_true _ _ ▸ b4.1)
      have b6 := (Bool.and_eq_true _ _ ▸ b5.1)
      have hz : z < 264 := Nat.le_of_ble_eq_true b6.1
      rw [dh_bne (show z ≠ 1003 by omega), dh_bne (show z ≠ 1004 by omega)]
      rw [b5.2, b4.2, b3.2, dh_rcv_ok b2.2, b1.2, cq_nb b6.2]
      simp only [Bool.or_self, cond_false, Bool.and_self, cond_true]
      split at q
      · rename_i w D1 hr
        rw [ih _ _ _ _ _ _ _ _ hr]
        dsimp only
        split at q
        · cases q
        · rename_i hT
          rw [hT]
          exact ih _ _ _ _ _ _ _ _ q
      · cases q
    · cases q
theorem dh_one_ok {rd : dh_F} {ra : am_F} (ih : dh_Q L xs rd ra) : dh_Q L xs (dh_one rd) (am_one ra) := by
  intro d y pc ls st D v D' q
  unfold dh_one at q
  unfold am_one
  split at q
  · cases q
  · rename_i e hc
    try simp only [hc]
    split at q
    · rename_i hi
      try simp only [hi]
      split at q
      · rw [cond_eq_ite] at q
        split at q
        · rename_i hr
          cases q
          dsimp only
          rw [hr]
          rfl
        · cases q
      · cases q
    · rename_i hi
      try simp only [hi]
      split at q
      · cases q
        rfl
      · cases q
    · rename_i i hi
      try simp only [hi]
      exact dh_cal_ok ih q
    · rename_i i hi
      try simp only [hi]
      exact dh_cal_ok ih q
    · rename_i i hi
      try simp only [hi]
      exact dh_cal_ok ih q
    · cases q
    · cases q
    · cases q
    · rename_i n1 n2 n3 n4 n5 n6 n7 n8
      split at q
      · rename_i pc' ls' st' D1 hst
        have k := dh_st_ok (L := L) (xs := xs) hst
        dsimp only at k
        split
        · rename_i z; exact absurd z n1
        · rename_i z; exact absurd z n6
        · rename_i z; exact absurd z n7
        · rename_i z; exact absurd z n2
        · rename_i z; exact absurd z n8
        · rename_i z; exact absurd z (n3 _)
        · rename_i z; exact absurd z (n4 _)
        · rename_i z; exact absurd z (n5 _)
        · rw [k]
          exact ih _ _ _ _ _ _ _ _ q
      · cases q
theorem dh_run_ok : ∀ n, dh_Q L xs (dh_run n) (am_run n)
  | 0 => fun _ _ _ _ _ _ _ _ q => by cases q
  | n + 1 => fun d y pc ls st D v D' q => dh_one_ok (dh_run_ok n) d y pc ls st D v D' q
end CMC
