/-! THE CHECKER, 22: states with frames; returns, throws, calls that are walked through -/
abbrev cq_Fa : Type := Nat × Nat × List cq_A × List cq_A
def cq_fg (ρ : Nat → Int) : List cq_Fa → List cq_Fm → Prop
  | [], [] => True
  | a :: as, c :: cs => a.1 = c.1 ∧ a.2.1 = c.2.1 ∧ cq_gs ρ a.2.2.1 c.2.2.1 ∧ cq_gs ρ a.2.2.2 c.2.2.2 ∧ cq_fg ρ as cs
  | _, _ => False
/-- a state: method, place, locals, stack, frames below, depth, store -/
abbrev cq_Z : Type := Nat × Nat × List cq_A × List cq_A × List cq_Fa × Nat × cq_S
def cq_Rz (m : cq_W) (h0 : am_H) (ρ : Nat → Int) (Z : cq_Z) (ls st : List Value) (h : am_H) (fs : List cq_Fm) : Prop := ∀ ρ', cq_ag Z.2.2.2.2.2.2.n ρ' ρ → cq_Md m h0 ρ' Z.2.2.2.2.2.2 h ∧ cq_gs ρ' Z.2.2.1 ls ∧ cq_gs ρ' Z.2.2.2.1 st ∧ cq_fg ρ' Z.2.2.2.2.1 fs
def cq_wid (as : List cq_A) : List cq_A := as.flatMap fun a => bif Nat.beq a.1 2 then [a, cq_u] else [a]
def cq_ent0 (as : List cq_A) (mx : Nat) : List cq_A := cq_wid as ++ List.replicate (mx - (cq_wid as).length) cq_u
def cq_no0 (as : List cq_A) : Bool := as.all fun a => !Nat.beq a.1 0
section CUA
variable {m : cq_W} {h0 : am_H} {ρ : Nat → Int} {S : cq_S} {h : am_H}
theorem cq_gs_app : ∀ {a b : List cq_A} {x y : List Value}, cq_gs ρ a x → cq_gs ρ b y → cq_gs ρ (a ++ b) (x ++ y)
  | [], _, [], _, _, h => h
  | [], _, _ :: _, _, g, _ => g.elim
  | _ :: _, _, [], _, g, _ => g.elim
  | _ :: _, _, _ :: _, _, g, h => ⟨g.1, cq_gs_app g.2 h⟩
theorem cq_gs_rev : ∀ {a : List cq_A} {x : List Value}, cq_gs ρ a x → cq_gs ρ a.reverse x.reverse
  | [], [], _ => trivial
  | [], _ :: _, g => g.elim
  | _ :: _, [], g => g.elim
  | a :: as, v :: vs, g => by
    rw [List.reverse_cons, List.reverse_cons]
    exact cq_gs_app (cq_gs_rev g.2) ⟨g.1, trivial⟩
theorem cq_gs_take : ∀ {a : List cq_A} {x : List Value} (n : Nat), cq_gs ρ a x → cq_gs ρ (a.take n) (x.take n) ∧ cq_gs ρ (a.drop n) (x.drop n)
  | a, x, 0, g => ⟨trivial, g⟩
  | [], [], _ + 1, _ => ⟨trivial, trivial⟩
  | [], _ :: _, _ + 1, g => g.elim
  | _ :: _, [], _ + 1, g => g.elim
  | a :: as, v :: vs, n + 1, g => ⟨⟨g.1, (cq_gs_take n g.2).1⟩, (cq_gs_take n g.2).2⟩
theorem cq_gs_rep : ∀ n : Nat, cq_gs ρ (List.replicate n cq_u) (List.replicate n am_ph)
  | 0 => trivial
  | n + 1 => ⟨trivial, cq_gs_rep n⟩
theorem cq_gs_wid : ∀ {a : List cq_A} {x : List Value}, cq_no0 a = true → cq_gs ρ a x → cq_gs ρ (cq_wid a) (am_wid x)
  | [], [], _, _ => trivial
  | [], _ :: _, _, g => g.elim
  | _ :: _, [], _, g => g.elim
  | a :: as, v :: vs, q, g => by
    have q1 := (Bool.and_eq_true _ _ ▸ (show ((!Nat.beq a.1 0) && cq_no0 as) = true from q))
    have ih := cq_gs_wid q1.2 g.2
    unfold cq_wid am_wid at ih ⊢
    rw [List.flatMap_cons, List.flatMap_cons]
    refine cq_gs_app ?_ ih
    have n0 : a.1 ≠ 0 := fun z => by
      have := q1.1
      rw [z] at this
      cases this
    cases h2 : Nat.beq a.1 2 with
    | true =>
      have g1 := g.1
      rw [cq_tag h2] at g1
      rw [cq_cat2 g1]
      exact ⟨g.1, trivial, trivial⟩
    | false =>
      have n2 : a.1 ≠ 2 := fun z => by rw [z] at h2; cases h2
      rw [cq_cat1 g.1 n2 n0]
      exact ⟨g.1, trivial⟩
theorem cq_gs_ent {a : List cq_A} {x : List Value} {mx : Nat} (q : cq_no0 a = true) (g : cq_gs ρ a x) : cq_gs ρ (cq_ent0 a mx) (am_ent x mx) ∧ (cq_wid a).length = (am_wid x).length := by
  have g1 := cq_gs_wid q g
  have e := cq_gs_len g1
  refine ⟨?_, e⟩
  unfold cq_ent0 am_ent
  rw [e]
  exact cq_gs_app g1 (cq_gs_rep _)
theorem cq_gs_no0 : ∀ {a : List cq_A} {x : List Value}, cq_gs ρ a x → True := fun _ => trivial
end CUA
/-- is the receiver what the method wants -/
def cq_rcv (z : Nat) (S : cq_S) (as : List cq_A) : Bool := match (am_in z).2.2.2 with
  | 1 => true
  | 2 => (match as with
    | a :: _ => (cq_cel S a).isSome
    | _ => false)
  | _ => (match as with
    | a :: _ => (match cq_cel S a with
      | some (_, (0, ci, _)) => Nat.beq ci (am_in z).1
      | _ => false)
    | _ => false)
def cq_inl (z : Nat) (Z : cq_Z) : Option cq_Z := match Z with
  | (y, pc, ls, st, fr, db + 1, S) => bif Nat.blt 0 z && Nat.blt z 264 && !Nat.beq z 10 && !Nat.beq z 57 && Nat.ble (am_in z).2.1 st.length && cq_c8 (st.drop (am_in z).2.1) && cq_rcv z S (st.take (am_in z).2.1).reverse && cq_no0 (st.take (am_in z).2.1) && Nat.ble (cq_wid (st.take (am_in z).2.1).reverse).length (am_in z).2.2.1 then some (z, 0, cq_ent0 (st.take (am_in z).2.1).reverse (am_in z).2.2.1, [], (y, pc, ls, st.drop (am_in z).2.1) :: fr, db, S) else none
  | _ => none
section CUB
variable {m : cq_W} {h0 : am_H} {ρ : Nat → Int} {h : am_H} {Fin : Option Value × am_H → Prop} {ls st : List Value} {fs : List cq_Fm} {d : Nat}
theorem cq_rcv_ok {z : Nat} {S : cq_S} {as : List cq_A} {vs : List Value} (q : cq_rcv z S as = true) (D : cq_Md m h0 ρ S h) (g : cq_gs ρ as vs) : am_rcv z vs h = true := by
  unfold cq_rcv at q
  unfold am_rcv
  split at q
  · rename_i hz
    rw [hz]
    rfl
  · rename_i hz
    rw [hz]
    split at q
    · rename_i a r
      obtain ⟨v, rs, e, g1, -⟩ := cq_gs_cons g
      subst e
      cases hc : cq_cel S a with
      | none => rw [hc] at q; cases q
      | some x =>
        obtain ⟨c, k⟩ := x
        obtain ⟨ev, -⟩ := cq_cel_ok hc D g1
        rw [ev]
        rfl
    · cases q
  · rename_i n1 n2
    split at q
    · rename_i a r
      obtain ⟨v, rs, e, g1, -⟩ := cq_gs_cons g
      subst e
      split at q
      · rename_i c ci w hc
        obtain ⟨ev, hl⟩ := cq_cel_ok hc D g1
        have e1 := am_beq q
        subst e1
        rw [ev]
        have hO : am_isO h (cq_ce ρ c) (am_in z).1 = true := cq_isO_of ⟨hl.1, hl.2⟩
        split
        · rfl
        · rfl
        · exact hO
      · cases q
    · cases q
theorem cq_no0_rev {as : List cq_A} (q : cq_no0 as = true) : cq_no0 as.reverse = true := by
  unfold cq_no0 at q ⊢
  rw [List.all_reverse]
  exact q
theorem cq_inl_ok {e : am_E} {Z Z' : cq_Z} (hc : am_at Z.1 Z.2.1 e) (hi : am_isC e.1) (q : cq_inl e.2.2.2.1 Z = some Z') (H : cq_Rz m h0 ρ Z ls st h fs) (hd : Z.2.2.2.2.2.1 ≤ d) (k : ∀ ls' st' fs' d', cq_Rz m h0 ρ Z' ls' st' h fs' → Z'.2.2.2.2.2.1 ≤ d' → cq_Go Fin d' Z'.1 Z'.2.1 ls' st' h fs') : cq_Go Fin d Z.1 Z.2.1 ls st h fs := by
  obtain ⟨y, pc, als, ast, fr, db, S⟩ := Z
  unfold cq_inl at q
  split at q
  · rename_i y0 pc0 ls0 st0 fr0 db0 S0 heq
    cases heq
    rw [cond_eq_ite] at q
    split at q
    · rename_i hb
      have b1 := (Bool.and_eq_true _ _ ▸ hb)
      have b2 := (Bool.and_eq_true _ _ ▸ b1.1)
      have b3 := (Bool.and_eq_true _ _ ▸ b2.1)
      have b4 := (Bool.and_eq_true _ _ ▸ b3.1)
      have b5 := (Bool.and_eq_true _ _ ▸ b4.1)
      have b6 := (Bool.and_eq_true _ _ ▸ b5.1)
      have b7 := (Bool.and_eq_true _ _ ▸ b6.1)
      have b8 := (Bool.and_eq_true _ _ ▸ b7.1)
      have e1 := Option.some.inj q
      subst e1
      cases d with
      | zero => exact absurd hd (Nat.not_succ_le_zero _)
      | succ d =>
        have D := (H ρ cq_ag.rf).1
        have gst := (H ρ cq_ag.rf).2.2.1
        have gt := cq_gs_take (am_in e.2.2.2.1).2.1 gst
        have hlen := Nat.le_of_ble_eq_true b5.2
        have elen : ast.length = st.length := cq_gs_len gst
        have g10 : e.2.2.2.1 ≠ 10 := fun z => by
          have := b7.2
          rw [z] at this
          cases this
        have g57 : e.2.2.2.1 ≠ 57 := fun z => by
          have := b6.2
          rw [z] at this
          cases this
        refine cq_Go.call (as := (st.take (am_in e.2.2.2.1).2.1).reverse) (rr := st.drop (am_in e.2.2.2.1).2.1) hc hi ⟨Nat.le_of_ble_eq_true b8.1, Nat.le_of_ble_eq_true b8.2, g10, g57⟩ ?_ ?_ (cq_c8_ok gt.2 b4.2) (cq_rcv_ok b3.2 D (cq_gs_rev gt.1)) ?_ ?_
        · rw [List.reverse_reverse, List.take_append_drop]
        · rw [List.length_reverse, List.length_take]
          omega
        · rw [← (cq_gs_ent (mx := 0) (cq_no0_rev b2.2) (cq_gs_rev gt.1)).2]
          exact Nat.le_of_ble_eq_true b1.2
        · refine k _ _ _ d (fun ρ' a => ?_) (Nat.le_of_succ_le_succ hd)
          obtain ⟨D', g1, g2, g3⟩ := H ρ' a
          have gt' := cq_gs_take (am_in e.2.2.2.1).2.1 g2
          exact ⟨D', (cq_gs_ent (cq_no0_rev b2.2) (cq_gs_rev gt'.1)).1, trivial, rfl, rfl, g1, gt'.2, g3⟩
    · cases q
  · cases q
end CUB
