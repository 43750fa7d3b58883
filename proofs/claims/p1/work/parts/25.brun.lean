/-! the rough machine's run -/
abbrev bm_F : Type := Nat → Nat → Nat → List Value → List Value → bm_H → Option (Option Value × bm_H)
def bm_wid (as : List Value) : List Value := as.flatMap fun v => bif Nat.beq (bm_cat v) 2 then [v, am_ph] else [v]
def bm_ent (as : List Value) (mx : Nat) : List Value := bm_wid as ++ List.replicate (mx - (bm_wid as).length) am_ph
def bm_cs (st : List Value) : Nat := (st.map bm_cat).sum
noncomputable def bm_rcv (G : bm_G) (z : Nat) (as : List Value) (b : bm_H) : Bool := match (am_in z).2.2.2 with
  | 1 => true
  | 2 => (match as with
    | .ref _ :: _ => true
    | _ => false)
  | _ => (match as with
    | .ref k :: _ => bm_isO G b k (am_in z).1
    | _ => false)
/-- a stretch of a row is put, place by place, from the last one on -/
noncomputable def bm_cpl (G : bm_G) (b0 : bm_H) (a sp d dp : Nat) (n : Nat) : bm_H → bm_H := Nat.rec (fun b => b) (fun k ih b => ih (bm_put b d (dp + k) (bm_get G b0 a (sp + k)))) n
noncomputable def bm_cp (G : bm_G) (b : bm_H) (a : Nat) (sp : Int32) (d : Nat) (dp n : Int32) : Option bm_H :=
  bif Nat.blt a b.1 && (Nat.beq (bm_sh G b a).1 1 || Nat.beq (bm_sh G b a).1 2) && Nat.beq (bm_sh G b a).2.1 0 && Nat.blt d b.1 && Nat.beq (bm_sh G b d).1 1 && Nat.beq (bm_sh G b d).2.1 0 then
    (if sp < 0 ∨ dp < 0 ∨ n < 0 ∨ (bm_sh G b a).2.2 < sp.toNatClampNeg + n.toNatClampNeg ∨ (bm_sh G b d).2.2 < dp.toNatClampNeg + n.toNatClampNeg then none
     else bif (List.range n.toNatClampNeg).all (fun i => bm_I G (bm_get G b a (sp.toNatClampNeg + i))) then some (bm_cpl G b a sp.toNatClampNeg d dp.toNatClampNeg n.toNatClampNeg b) else none)
  else none
noncomputable def bm_cal (G : bm_G) (rec : bm_F) (d y pc : Nat) (ls st : List Value) (h : bm_H) (e : am_E) : Option (Option Value × bm_H) :=
  match d with
  | 0 => none
  | d' + 1 =>
    bif Nat.beq e.2.2.2.1 1000 then (match st with
      | .ref _ :: r => bif Nat.ble (bm_cs r) 8 then rec d y (pc + 3) ls r h else none
      | _ => none)
    else bif Nat.beq e.2.2.2.1 1001 then (match st with
      | .int n :: .int dp :: .ref b :: .int sp :: .ref a :: r => bif Nat.ble (bm_cs r) 8 then (match bm_cp G h a sp b dp n with
        | some h' => rec d y (pc + 3) ls r h'
        | none => none) else none
      | _ => none)
    else bif Nat.beq e.2.2.2.1 1002 then (match st with
      | .ref a :: r => bif Nat.ble (bm_cs r) 8 && bm_isO G h a 12 && Nat.ble 3 d' && (List.range 4).all (fun j => decide (bm_get G h a j = .null)) then rec d y (pc + 3) ls r h else none
      | _ => none)
    else bif Nat.beq e.2.2.2.1 10 then (match st with
      | .int b :: .int a :: r => bif Nat.ble (bm_cs r) 8 && Nat.beq e.2.2.2.2.1 0 then rec d y (pc + 3) ls (.int (if a < b then b else a) :: r) h else none
      | _ => none)
    else bif Nat.beq e.2.2.2.1 57 then (match st with
      | .int b :: .int a :: r => bif Nat.ble (bm_cs r) 8 && Nat.beq e.2.2.2.2.1 0 then rec d y (pc + 3) ls (.int (if b < a then b else a) :: r) h else none
      | _ => none)
    else bif Nat.blt 0 e.2.2.2.1 && Nat.ble (am_in e.2.2.2.1).2.1 st.length && Nat.ble (bm_cs (st.drop (am_in e.2.2.2.1).2.1)) 8 && bm_rcv G e.2.2.2.1 (st.take (am_in e.2.2.2.1).2.1).reverse h && Nat.ble (bm_wid (st.take (am_in e.2.2.2.1).2.1).reverse).length (am_in e.2.2.2.1).2.2.1 then
      (match rec d' e.2.2.2.1 0 (bm_ent (st.take (am_in e.2.2.2.1).2.1).reverse (am_in e.2.2.2.1).2.2.1) [] h with
      | some (v, h') => rec d y (pc + 3) ls (v.toList ++ st.drop (am_in e.2.2.2.1).2.1) h'
      | none => none)
    else none
def bm_rok (G : bm_G) (rt : Option FieldType) (v : Value) : Bool := match rt with
  | some .int => bm_I G v
  | some .boolean => (match v with
    | .int x => x == 0 || x == 1
    | _ => false)
  | _ => false
noncomputable def bm_one (G : bm_G) (rec : bm_F) (d y pc : Nat) (ls st : List Value) (h : bm_H) : Option (Option Value × bm_H) := match (bif Nat.blt y am_NM && Nat.blt pc (am_bd y) then am_code y pc else none) with
  | none => none
  | some e => (match e.1 with
    | .ireturn => (match st with
      | [v] => bif bm_rok G (am_rt y) v then some (some v, h) else none
      | _ => none)
    | .areturn => (match st with
      | [.null] => some (some .null, h)
      | [.ref a] => some (some (.ref a), h)
      | _ => none)
    | .return_ => (match st with
      | [] => some (none, h)
      | _ => none)
    | .invokestatic _ => bm_cal G rec d y pc ls st h e
    | .invokevirtual _ => bm_cal G rec d y pc ls st h e
    | .invokespecial _ => bm_cal G rec d y pc ls st h e
    | _ => (match bm_st G e pc ls st h with
      | some (pc', ls', st', h') => rec d y pc' ls' st' h'
      | none => none))
noncomputable def bm_run (G : bm_G) (n : Nat) : bm_F := Nat.rec (fun _ _ _ _ _ _ => none) (fun _ rec => bm_one G rec) n
theorem bm_run_s (G : bm_G) (n d y pc : Nat) (ls st : List Value) (h : bm_H) : bm_run G (n + 1) d y pc ls st h = bm_one G (bm_run G n) d y pc ls st h := rfl
/-! its runs are runs of the plain machine -/
def bm_ro (ρ : Nat → Int32) (a v : Option Value) : Prop := match a, v with
  | none, none => True
  | some a, some v => bm_rel ρ a v
  | _, _ => False
theorem bm_cs_eq {ρ : Nat → Int32} : ∀ {as l : List Value}, bm_rl ρ as l → am_cs l = bm_cs as
  | [], [], _ => rfl
  | [], _ :: _, h => absurd h id
  | _ :: _, [], h => absurd h id
  | a :: as, v :: vs, h => by
    have := bm_cs_eq (as := as) (l := vs) h.2
    unfold am_cs bm_cs at this ⊢
    rw [List.map_cons, List.map_cons, List.sum_cons, List.sum_cons, this, bm_cat_eq h.1]
theorem bm_rl.app {ρ : Nat → Int32} : ∀ {as l bs m : List Value}, bm_rl ρ as l → bm_rl ρ bs m → bm_rl ρ (as ++ bs) (l ++ m)
  | [], [], _, _, _, h => h
  | [], _ :: _, _, _, h, _ => absurd h id
  | _ :: _, [], _, _, h, _ => absurd h id
  | _ :: as, _ :: vs, _, _, h, g => ⟨h.1, bm_rl.app (as := as) (l := vs) h.2 g⟩
theorem bm_rl.take {ρ : Nat → Int32} : ∀ {as l : List Value} (n : Nat), bm_rl ρ as l → bm_rl ρ (as.take n) (l.take n)
  | [], [], n, _ => by simp [bm_rl]
  | [], _ :: _, _, h => absurd h id
  | _ :: _, [], _, h => absurd h id
  | _ :: as, _ :: vs, n, h => by
    cases n with
    | zero => exact trivial
    | succ n => exact ⟨h.1, bm_rl.take (as := as) (l := vs) n h.2⟩
theorem bm_rl.drop {ρ : Nat → Int32} : ∀ {as l : List Value} (n : Nat), bm_rl ρ as l → bm_rl ρ (as.drop n) (l.drop n)
  | [], [], n, _ => by simp [bm_rl]
  | [], _ :: _, _, h => absurd h id
  | _ :: _, [], _, h => absurd h id
  | _ :: as, _ :: vs, n, h => by
    cases n with
    | zero => exact h
    | succ n => exact bm_rl.drop (as := as) (l := vs) n h.2
theorem bm_rl.rev {ρ : Nat → Int32} : ∀ {as l : List Value}, bm_rl ρ as l → bm_rl ρ as.reverse l.reverse
  | [], [], _ => trivial
  | [], _ :: _, h => absurd h id
  | _ :: _, [], h => absurd h id
  | a :: as, v :: vs, h => by
    rw [List.reverse_cons, List.reverse_cons]
    exact (bm_rl.rev (as := as) (l := vs) h.2).app (show bm_rl ρ [a] [v] from ⟨h.1, trivial⟩)
theorem bm_rl.wid {ρ : Nat → Int32} : ∀ {as l : List Value}, bm_rl ρ as l → bm_rl ρ (bm_wid as) (am_wid l)
  | [], [], _ => trivial
  | [], _ :: _, h => absurd h id
  | _ :: _, [], h => absurd h id
  | a :: as, v :: vs, h => by
    have ih := bm_rl.wid (as := as) (l := vs) h.2
    show bm_rl ρ ((bif Nat.beq (bm_cat a) 2 then [a, am_ph] else [a]) ++ bm_wid as) ((bif Nat.beq v.category 2 then [v, am_ph] else [v]) ++ am_wid vs)
    refine bm_rl.app ?_ ih
    rw [bm_cat_eq h.1]
    cases Nat.beq (bm_cat a) 2 with
    | true => exact ⟨h.1, rfl, trivial⟩
    | false => exact ⟨h.1, trivial⟩
theorem bm_rl.rep {ρ : Nat → Int32} : ∀ (n : Nat), bm_rl ρ (List.replicate n am_ph) (List.replicate n am_ph)
  | 0 => trivial
  | n + 1 => ⟨rfl, bm_rl.rep n⟩
theorem bm_rl.ent {ρ : Nat → Int32} {as l : List Value} {mx : Nat} (h : bm_rl ρ as l) : bm_rl ρ (bm_ent as mx) (am_ent l mx) := by
  unfold bm_ent am_ent
  rw [h.wid.len]
  exact h.wid.app (bm_rl.rep _)
theorem bm_rcv_of {G : bm_G} {ρ : Nat → Int32} {z : Nat} {as l : List Value} {b : bm_H} {h : am_H} (hR : bm_RR G ρ b h) (hl : bm_rl ρ as l) (hr : bm_rcv G z as b = true) : am_rcv z l h = true := by
  unfold bm_rcv at hr
  unfold am_rcv
  split
  · rfl
  · rename_i e
    rw [e] at hr
    simp only at hr
    split at hr
    · obtain ⟨v, vs, rfl, hv, -⟩ := hl.uncons
      cases hv
      rfl
    · cases hr
  · rename_i n1 n2
    split at hr
    · exact absurd (by assumption) n1
    · exact absurd (by assumption) n2
    · split at hr
      · obtain ⟨v, vs, rfl, hv, -⟩ := hl.uncons
        cases hv
        exact (bm_isO_of hR hr).2
      · cases hr
theorem bm_cpl_RR {G : bm_G} {ρ : Nat → Int32} {b0 : bm_H} {a sp d dp : Nat} {f : Nat → Value} (hf : ∀ k, bm_rel ρ (bm_get G b0 a (sp + k)) (f k)) : ∀ (n : Nat) (b : bm_H) (h : am_H), d < b.1 → bm_RR G ρ b h → ∃ h', bm_RR G ρ (bm_cpl G b0 a sp d dp n b) h' ∧ h'.1 = h.1 ∧ h'.2.1 = h.2.1 ∧ h'.2.2.1 = h.2.2.1 ∧ h'.2.2.2 = am_row h.2.2.2 d (fun j => if dp ≤ j ∧ j < dp + n then f (j - dp) else h.2.2.2 d j) := by
  intro n
  induction n with
  | zero =>
    intro b h hd hR
    refine ⟨h, hR, rfl, rfl, rfl, ?_⟩
    funext k j
    unfold am_row
    by_cases e : k = d
    · rw [if_pos e]
      dsimp only
      rw [if_neg (by omega), e]
    · rw [if_neg e]
  | succ n ih =>
    intro b h hd hR
    obtain ⟨h', q1, q2, q3, q4, q5⟩ := ih (bm_put b d (dp + n) (bm_get G b0 a (sp + n))) (am_put h d (dp + n) (f n)) hd (hR.put hd (hf n))
    refine ⟨h', q1, q2, q3, q4, ?_⟩
    rw [q5]
    funext k j
    show am_row (am_up h.2.2.2 d (dp + n) (f n)) d (fun j => if dp ≤ j ∧ j < dp + n then f (j - dp) else am_up h.2.2.2 d (dp + n) (f n) d j) k j = _
    unfold am_row am_up
    by_cases e : k = d
    · rw [if_pos e, if_pos e]
      dsimp only
      rw [if_pos rfl]
      by_cases e1 : dp ≤ j ∧ j < dp + n
      · rw [if_pos e1, if_pos ⟨e1.1, by omega⟩]
      · rw [if_neg e1]
        by_cases e2 : j = dp + n
        · rw [if_pos e2, if_pos (by omega), e2]
          congr 1
          omega
        · rw [if_neg e2, if_neg (by omega)]
    · rw [if_neg e, if_neg e, if_neg e]
theorem bm_cp_of {G : bm_G} {ρ : Nat → Int32} {b b' : bm_H} {h : am_H} {a d : Nat} {sp dp n : Int32} (hG : bm_ok G ρ) (hR : bm_RR G ρ b h) (hc : bm_cp G b a sp d dp n = some b') : ∃ h', am_cp h a sp d dp n = some h' ∧ bm_RR G ρ b' h' := by
  unfold bm_cp at hc
  obtain ⟨c1, hc⟩ := am_cond hc
  obtain ⟨c2, hc⟩ := am_ifn hc
  obtain ⟨c3, hc⟩ := am_cond hc
  cases hc
  have c0 := c1
  simp only [Bool.and_eq_true] at c0
  have ha := am_blt c0.1.1.1.1.1
  have hd := am_blt c0.1.1.2
  obtain ⟨h', q1, q2, q3, q4, q5⟩ := bm_cpl_RR (G := G) (ρ := ρ) (b0 := b) (a := a) (sp := sp.toNatClampNeg) (d := d) (dp := dp.toNatClampNeg) (f := fun k => h.2.2.2 a (sp.toNatClampNeg + k)) (fun k => hR.2.2.2.1 a _ ha) n.toNatClampNeg b h hd hR
  refine ⟨h', ?_, q1⟩
  unfold am_cp
  rw [hR.2.2.1 a ha, hR.2.2.1 d hd, hR.1, c1]
  simp only [cond_true]
  rw [if_neg c2]
  have c4 : (List.range n.toNatClampNeg).all (fun i => am_isI (h.2.2.2 a (sp.toNatClampNeg + i))) = true := by
    rw [List.all_eq_true] at c3 ⊢
    intro i hi
    obtain ⟨x, hx⟩ := bm_I_int hG (c3 i hi) (hR.2.2.2.1 a _ ha)
    rw [hx]
    rfl
  rw [c4]
  simp only [cond_true]
  rw [← hR.1, ← q2, ← q3, ← q4, ← q5]
def bm_Sm (G : bm_G) (ρ : Nat → Int32) (bf : bm_F) (af : am_F) : Prop := ∀ (d y pc : Nat) (als ast ls st : List Value) (b : bm_H) (h : am_H) (ar : Option Value) (b' : bm_H), bf d y pc als ast b = some (ar, b') → bm_rl ρ als ls → bm_rl ρ ast st → bm_RR G ρ b h → ∃ r h', af d y pc ls st h = some (r, h') ∧ bm_ro ρ ar r ∧ bm_RR G ρ b' h'
theorem bm_cal_sim {G : bm_G} {ρ : Nat → Int32} {bf : bm_F} {af : am_F} (hG : bm_ok G ρ) (ih : bm_Sm G ρ bf af) {d y pc : Nat} {als ast ls st : List Value} {b b' : bm_H} {h : am_H} {ar : Option Value} {en : am_E} (hs : bm_cal G bf d y pc als ast b en = some (ar, b')) (hl : bm_rl ρ als ls) (ht : bm_rl ρ ast st) (hR : bm_RR G ρ b h) : ∃ r h', am_cal af d y pc ls st h en = some (r, h') ∧ bm_ro ρ ar r ∧ bm_RR G ρ b' h' := by
  unfold bm_cal at hs
  unfold am_cal
  split at hs
  · cases hs
  · rename_i d'
    simp only
    by_cases z0 : Nat.beq en.2.2.2.1 1000 = true
    · rw [z0] at hs ⊢
      simp only [cond_true] at hs ⊢
      split at hs
      · rename_i x r
        obtain ⟨c1, hs⟩ := am_cond hs
        obtain ⟨v, vs, rfl, hv, t1⟩ := ht.uncons
        cases hv
        obtain ⟨r2, h2, q1, q2⟩ := ih _ _ _ _ _ _ _ _ _ _ _ hs hl t1 hR
        refine ⟨r2, h2, ?_, q2⟩
        simp only
        rw [bm_cs_eq t1, c1]
        exact q1
      · cases hs
    rw [Bool.not_eq_true] at z0
    rw [z0] at hs ⊢
    simp only [cond_false] at hs ⊢
    by_cases z1 : Nat.beq en.2.2.2.1 1001 = true
    · rw [z1] at hs ⊢
      simp only [cond_true] at hs ⊢
      split at hs
      · rename_i n dp dd sp a r
        obtain ⟨c1, hs⟩ := am_cond hs
        split at hs
        · rename_i b2 hb
          obtain ⟨v1, vs, rfl, e1, t1⟩ := ht.uncons
          obtain ⟨v2, vs, rfl, e2, t2⟩ := t1.uncons
          obtain ⟨v3, vs, rfl, e3, t3⟩ := t2.uncons
          obtain ⟨v4, vs, rfl, e4, t4⟩ := t3.uncons
          obtain ⟨v5, vs, rfl, e5, t5⟩ := t4.uncons
          cases e1
          cases e2
          cases e3
          cases e4
          cases e5
          obtain ⟨h2, p1, p2⟩ := bm_cp_of hG hR hb
          obtain ⟨r2, h3, q1, q2⟩ := ih _ _ _ _ _ _ _ _ _ _ _ hs hl t5 p2
          refine ⟨r2, h3, ?_, q2⟩
          simp only
          rw [bm_cs_eq t5, c1, p1]
          exact q1
        · cases hs
      · cases hs
    rw [Bool.not_eq_true] at z1
    rw [z1] at hs ⊢
    simp only [cond_false] at hs ⊢
    by_cases z2 : Nat.beq en.2.2.2.1 1002 = true
    · rw [z2] at hs ⊢
      simp only [cond_true] at hs ⊢
      split at hs
      · rename_i x r
        obtain ⟨c1, hs⟩ := am_cond hs
        simp only [Bool.and_eq_true] at c1
        obtain ⟨v, vs, rfl, hv, t1⟩ := ht.uncons
        cases hv
        obtain ⟨o1, o2⟩ := bm_isO_of hR c1.1.1.2
        have hR2 : bm_RR G ρ b (am_stop h x) := by
          obtain ⟨g1, g2, g3, g4, g5⟩ := hR
          refine ⟨g1, g2, g3, fun k j hk => ?_, g5⟩
          show bm_rel ρ _ (am_row h.2.2.2 x (fun j => bif Nat.blt j 4 then .null else h.2.2.2 x j) k j)
          unfold am_row
          by_cases e : k = x
          · subst e
            rw [if_pos rfl]
            dsimp only
            by_cases e4 : j < 4
            · rw [bm_lT e4]
              have := of_decide_eq_true (List.all_eq_true.mp c1.2 j (List.mem_range.mpr e4))
              rw [this]
              rfl
            · rw [bm_lF e4]
              exact g4 k j hk
          · rw [if_neg e]
            exact g4 k j hk
        obtain ⟨r2, h2, q1, q2⟩ := ih _ _ _ _ _ _ _ _ _ _ _ hs hl t1 hR2
        refine ⟨r2, h2, ?_, q2⟩
        simp only
        rw [bm_cs_eq t1, c1.1.1.1, o2, c1.1.2]
        exact q1
      · cases hs
    rw [Bool.not_eq_true] at z2
    rw [z2] at hs ⊢
    simp only [cond_false] at hs ⊢
    by_cases z3 : Nat.beq en.2.2.2.1 10 = true
    · rw [z3] at hs ⊢
      simp only [cond_true] at hs ⊢
      split at hs
      · rename_i y1 x1 r
        obtain ⟨c1, hs⟩ := am_cond hs
        simp only [Bool.and_eq_true] at c1
        obtain ⟨v, vs, rfl, hv, t1⟩ := ht.uncons
        obtain ⟨v2, vs, rfl, hv2, t2⟩ := t1.uncons
        cases hv
        cases hv2
        obtain ⟨r2, h2, q1, q2⟩ := ih _ _ _ _ _ _ (Value.int (if x1 < y1 then y1 else x1) :: vs) _ _ _ _ hs hl ⟨rfl, t2⟩ hR
        refine ⟨r2, h2, ?_, q2⟩
        simp only
        rw [bm_cs_eq t2, c1.1, c1.2]
        exact q1
      · cases hs
    rw [Bool.not_eq_true] at z3
    rw [z3] at hs ⊢
    simp only [cond_false] at hs ⊢
    by_cases z4 : Nat.beq en.2.2.2.1 57 = true
    · rw [z4] at hs ⊢
      simp only [cond_true] at hs ⊢
      split at hs
      · rename_i y1 x1 r
        obtain ⟨c1, hs⟩ := am_cond hs
        simp only [Bool.and_eq_true] at c1
        obtain ⟨v, vs, rfl, hv, t1⟩ := ht.uncons
        obtain ⟨v2, vs, rfl, hv2, t2⟩ := t1.uncons
        cases hv
        cases hv2
        obtain ⟨r2, h2, q1, q2⟩ := ih _ _ _ _ _ _ (Value.int (if y1 < x1 then y1 else x1) :: vs) _ _ _ _ hs hl ⟨rfl, t2⟩ hR
        refine ⟨r2, h2, ?_, q2⟩
        simp only
        rw [bm_cs_eq t2, c1.1, c1.2]
        exact q1
      · cases hs
    rw [Bool.not_eq_true] at z4
    rw [z4] at hs ⊢
    simp only [cond_false] at hs ⊢
    obtain ⟨c1, hs⟩ := am_cond hs
    simp only [Bool.and_eq_true] at c1
    split at hs
    · rename_i v b2 hv
      have ta := ((ht.take (am_in en.2.2.2.1).2.1).rev)
      have td := ht.drop (am_in en.2.2.2.1).2.1
      obtain ⟨r1, h1, p1, p2, p3⟩ := ih _ _ _ _ _ _ _ _ _ _ _ hv (ta.ent (mx := (am_in en.2.2.2.1).2.2.1)) (show bm_rl ρ [] [] from trivial) hR
      have tv : bm_rl ρ (v.toList ++ ast.drop (am_in en.2.2.2.1).2.1) (r1.toList ++ st.drop (am_in en.2.2.2.1).2.1) := by
        refine bm_rl.app ?_ td
        cases v <;> cases r1 <;> first | exact trivial | exact absurd p2 id | exact ⟨p2, trivial⟩
      obtain ⟨r2, h2, q1, q2⟩ := ih _ _ _ _ _ _ _ _ _ _ _ hs hl tv p3
      refine ⟨r2, h2, ?_, q2⟩
      rw [c1.1.1.1.1, ← ht.len, c1.1.1.1.2, bm_cs_eq td, c1.1.1.2, bm_rcv_of hR ta c1.1.2, ← ta.wid.len, c1.2]
      simp only [Bool.and_self, cond_true]
      rw [p1]
      exact q1
    · cases hs
theorem bm_one_sim {G : bm_G} {ρ : Nat → Int32} {bf : bm_F} {af : am_F} (hG : bm_ok G ρ) (ih : bm_Sm G ρ bf af) : bm_Sm G ρ (bm_one G bf) (am_one af) := by
  intro d y pc als ast ls st b h ar b' hs hl ht hR
  unfold bm_one at hs
  unfold am_one
  split at hs
  · cases hs
  · rename_i en hc
    rw [hc]
    simp only
    split at hs
    · rename_i hi
      rw [hi]
      simp only
      split at hs
      · rename_i v
        obtain ⟨c1, hs⟩ := am_cond hs
        cases hs
        obtain ⟨w, vs, rfl, hw, t1⟩ := ht.uncons
        have t1 := t1.unnil
        subst t1
        have : ∃ x, w = .int x ∧ am_rok (am_rt y) x = true := by
          unfold bm_rok at c1
          split at c1
          · rename_i e
            obtain ⟨x, hx⟩ := bm_I_int hG c1 hw
            exact ⟨x, hx, by rw [e]; rfl⟩
          · rename_i e
            split at c1
            · rename_i x
              exact ⟨x, hw, by rw [e]; exact c1⟩
            · cases c1
          · cases c1
        obtain ⟨x, rfl, hx⟩ := this
        refine ⟨some (.int x), h, ?_, hw, hR⟩
        simp only
        rw [hx]
        rfl
      · cases hs
    · rename_i hi
      rw [hi]
      simp only
      split at hs
      · cases hs
        obtain ⟨w, vs, rfl, hw, t1⟩ := ht.uncons
        have t1 := t1.unnil
        subst t1
        cases hw
        exact ⟨_, h, rfl, (show bm_rel ρ .null .null from rfl), hR⟩
      · rename_i a
        cases hs
        obtain ⟨w, vs, rfl, hw, t1⟩ := ht.uncons
        have t1 := t1.unnil
        subst t1
        cases hw
        exact ⟨_, h, rfl, (show bm_rel ρ (.ref a) (.ref a) from rfl), hR⟩
      · cases hs
    · rename_i hi
      rw [hi]
      simp only
      split at hs
      · cases hs
        have t1 := ht.unnil
        subst t1
        exact ⟨none, h, rfl, trivial, hR⟩
      · cases hs
    · rename_i x hi
      rw [hi]
      exact bm_cal_sim hG ih hs hl ht hR
    · rename_i x hi
      rw [hi]
      exact bm_cal_sim hG ih hs hl ht hR
    · rename_i x hi
      rw [hi]
      exact bm_cal_sim hG ih hs hl ht hR
    · rename_i n1 n2 n3 n4 n5 n6
      split at hs
      · rename_i pc' als' ast' b2 hst
        obtain ⟨ls', st', h2, p1, p2, p3, p4⟩ := bm_sim hG hst hl ht hR
        obtain ⟨r, h3, q1, q2⟩ := ih _ _ _ _ _ _ _ _ _ _ _ hs p2 p3 p4
        refine ⟨r, h3, ?_, q2⟩
        split
        · exact absurd (by assumption) n1
        · rename_i e
          rw [show am_st en pc ls st h = none from by
            obtain ⟨i, rest⟩ := en
            have e : i = .lreturn := e
            subst e
            rfl] at p1
          cases p1
        · exact absurd (by assumption) n2
        · exact absurd (by assumption) n3
        · exact absurd (by assumption) (n4 _)
        · exact absurd (by assumption) (n5 _)
        · exact absurd (by assumption) (n6 _)
        · rw [p1]
          exact q1
      · cases hs
theorem bm_run_sim {G : bm_G} {ρ : Nat → Int32} (hG : bm_ok G ρ) : ∀ n, bm_Sm G ρ (bm_run G n) (am_run n) := by
  intro n
  induction n with
  | zero => intro d y pc als ast ls st b h ar b' hs; cases hs
  | succ n ih => exact bm_one_sim hG ih
def bm_h0 : bm_H := (40, 0, [], [])
theorem bm_RR0 {G : bm_G} {xs : Nat → Int32} (hG : bm_ok G xs) : bm_RR G xs bm_h0 (am_h0 G.1 xs) := by
  refine ⟨rfl, rfl, fun k _ => rfl, fun k j hk => ?_, fun _ _ _ => rfl⟩
  show bm_rel xs (bm_dv G k (am_sh0 G.1 k) j) (am_V0 xs k j)
  unfold bm_dv am_V0
  by_cases h0 : k = 0
  · subst h0
    show bm_rel xs (bif Nat.blt j 6 then bm_sc G j else .retAddr 1000) (.int (xs j))
    by_cases hj : j < 6
    · rw [bm_lT hj]
      show bm_rel xs (bm_sc G j) _
      have hsym : bm_rel xs (.retAddr (j + 1)) (.int (xs j)) := by
        unfold bm_rel
        simp only
        rw [if_neg (by omega), if_pos (by omega)]
        rfl
      unfold bm_sc
      split
      · rename_i q hq
        by_cases e : q.1 = q.2
        · rw [if_pos e]
          have h1 := hG.1 j q hq
          show Value.int (xs j) = Value.int (Int32.ofInt q.1)
          rw [show q.1 = (xs j).toInt by omega, Int32.ofInt_toInt]
        · rw [if_neg e]
          exact hsym
      · exact hsym
    · rw [bm_lF hj]
      exact bm_top _
  · have e1 : Nat.beq (am_sh0 G.1 k).1 0 = false ∧ Nat.beq (am_sh0 G.1 k).1 1 = false := by
      unfold am_sh0
      rw [bm_bF h0]
      cases Nat.blt k 7 <;> exact ⟨rfl, rfl⟩
    rw [e1.1, e1.2, bm_bF h0]
    rfl
/-- what is checked of a region: the law's run over rough values comes to 1, within the room -/
noncomputable def bm_chk (n d : Nat) (G : bm_G) : Bool := match bm_run G n d 0 0 (bm_ent [.ref 0] 4) [] bm_h0 with
  | some (some (.int 1), b) => Nat.ble b.1 600042 && Nat.ble b.2.1 7302232
  | _ => false
theorem bm_law {p : Program} {e : Env} {s : State} {m : MethodId} {below : List Frame} {meth : Method} {c : Code} (l : Launch) {b L : Nat} {xs : Nat → Int32} (C0 : lw_At p s m meth c b L xs) {n d : Nat} {G : bm_G} (hd : d ≤ 1300) (hL : G.1 = L) (hG : bm_ok G xs) (hk : bm_chk n d G = true) : W p l e room_1 s m #[Value.ref b] below meth c s.heap [] 0 0 (lw_Z below #[Value.ref b] s) (entryFrame m ([Value.ref b] : List Value).toArray 4) := by
  subst hL
  unfold bm_chk at hk
  split at hk
  · rename_i b2 hb
    rw [Bool.and_eq_true] at hk
    obtain ⟨r, h', q1, q2, q3⟩ := bm_run_sim hG n _ _ _ _ _ _ _ _ _ _ _ hb (bm_rl.ent (as := [.ref 0]) (l := [.ref 0]) (mx := 4) ⟨rfl, trivial⟩) (show bm_rl xs [] [] from trivial) (bm_RR0 hG)
    cases r with
    | none => exact absurd q2 id
    | some v =>
      have hv : v = .int 1 := q2
      subst hv
      exact am_law l C0 hd q1 (by rw [q3.1]; exact Nat.le_of_ble_eq_true hk.1) (by rw [q3.2.1]; exact Nat.le_of_ble_eq_true hk.2)
  · cases hk
