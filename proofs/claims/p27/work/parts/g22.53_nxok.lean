def cq_ro (y : Nat) (S : cq_S) (f : cq_F) : Bool := match am_rt y with
  | some .int => true
  | some .boolean => cq_in S.P f 0 1
  | _ => false
def cq_isS (z : Nat) : Bool := Nat.ble 1000 z || Nat.beq z 10 || Nat.beq z 57
def cq_nx (m : cq_W) (ck : Bool → List cq_A → cq_S → Bool) (cal : Nat → cq_Z → Option (List cq_Z)) (Z : cq_Z) : Option (List cq_Z) := match Z with
  | (y, pc, ls, st, fr, db, S) => (match (bif Nat.blt y am_NM && Nat.blt pc (am_bd y) then am_code y pc else none) with
    | none => none
    | some e => (match e.1 with
      | .ireturn => (match st with
        | [(1, f, _)] => bif cq_ro y S f then cq_rt ck [cq_i f] fr db S else none
        | _ => none)
      | .lreturn => (match st with
        | [(2, f, _)] => cq_rt ck [cq_l f] fr db S
        | _ => none)
      | .areturn => (match st with
        | [a] => bif cq_tR a.1 then cq_rt ck [a] fr db S else none
        | _ => none)
      | .return_ => (match st with
        | [] => cq_rt ck [] fr db S
        | _ => none)
      | .athrow => (match st with
        | (5, _, k) :: _ => bif Nat.beq k 79 && Nat.blt 0 y then cq_tw ck S fr y pc ls db else none
        | _ => none)
      | .invokestatic _ => bif cq_isS e.2.2.2.1 then cq_sp m e (y, pc, ls, st, fr, db, S) else cal e.2.2.2.1 (y, pc, ls, st, fr, db, S)
      | .invokevirtual _ => bif cq_isS e.2.2.2.1 then cq_sp m e (y, pc, ls, st, fr, db, S) else cal e.2.2.2.1 (y, pc, ls, st, fr, db, S)
      | .invokespecial _ => bif cq_isS e.2.2.2.1 then cq_sp m e (y, pc, ls, st, fr, db, S) else cal e.2.2.2.1 (y, pc, ls, st, fr, db, S)
      | _ => (match cq_ex m e pc ls st S with
        | some os => some (os.map (cq_lf y fr db))
        | none => (match e.1 with
          | .ldc idx => bif Nat.beq e.2.2.2.2.1 0 then none else (match am_sR (am_in y).1 idx with
            | some i => some [(y, pc + 2, ls, cq_rc (7 + i) :: st, fr, db, S)]
            | none => none)
          | .ldc_w idx => bif Nat.beq e.2.2.2.2.1 0 then none else (match am_sR (am_in y).1 idx with
            | some i => some [(y, pc + 3, ls, cq_rc (7 + i) :: st, fr, db, S)]
            | none => none)
          | _ => none))))
/-- a way of taking calls is sound -/
def cq_HC (m : cq_W) (h0 : am_H) (ρ0 : Nat → Int) (n0 : Nat) (Fin : Option Value × am_H → Prop) (cal : Nat → cq_Z → Option (List cq_Z)) : Prop := ∀ (e : am_E) (Z : cq_Z) (out : List cq_Z) (ρ : Nat → Int) (ls st : List Value) (h : am_H) (fs : List cq_Fm) (d : Nat), cq_ag n0 ρ ρ0 → n0 ≤ Z.2.2.2.2.2.2.n → am_at Z.1 Z.2.1 e → am_isC e.1 → cal e.2.2.2.1 Z = some out → cq_Rz m h0 ρ Z ls st h fs → Z.2.2.2.2.2.1 ≤ d → cq_Kn m h0 ρ Z.2.2.2.2.2.2.n Fin out → cq_Go Fin d Z.1 Z.2.1 ls st h fs
section CUE
variable {m : cq_W} {h0 : am_H} {ρ ρ0 : Nat → Int} {n0 : Nat} {h : am_H} {Fin : Option Value × am_H → Prop} {ck : Bool → List cq_A → cq_S → Bool} {cal : Nat → cq_Z → Option (List cq_Z)} {out : List cq_Z} {ls st : List Value} {fs : List cq_Fm} {d : Nat}
theorem cq_gs_nil {vs : List Value} (g : cq_gs ρ [] vs) : vs = [] := by
  cases vs with
  | nil => rfl
  | cons v r => exact g.elim
theorem cq_nx_ok {Z : cq_Z} (HE : cq_HE m h0 ρ0 n0 ck Fin) (HC : cq_HC m h0 ρ0 n0 Fin cal) (a0 : cq_ag n0 ρ ρ0) (hn0 : n0 ≤ Z.2.2.2.2.2.2.n) (q : cq_nx m ck cal Z = some out) (H : cq_Rz m h0 ρ Z ls st h fs) (hd : Z.2.2.2.2.2.1 ≤ d) (K : cq_Kn m h0 ρ Z.2.2.2.2.2.2.n Fin out) : cq_Go Fin d Z.1 Z.2.1 ls st h fs := by
  obtain ⟨y, pc, als, ast, fr, db, S⟩ := Z
  dsimp only at hn0 hd K ⊢
  unfold cq_nx at q
  have HR : cq_Rb m h0 ρ S als ast ls st h := fun ρ' a => ⟨(H ρ' a).1, (H ρ' a).2.1, (H ρ' a).2.2.1⟩
  have hf : ∀ ρ', cq_ag S.n ρ' ρ → cq_fg ρ' fr fs := fun ρ' a => (H ρ' a).2.2.2
  have hls : ∀ ρ', cq_ag S.n ρ' ρ → cq_gs ρ' als ls := fun ρ' a => (H ρ' a).2.1
  dsimp only at q
  split at q
  · cases q
  · rename_i e hc
    have hat : am_at y pc e := hc
    split at q
    · rename_i he
      split at q
      · rename_i f k
        rw [cond_eq_ite] at q
        split at q
        · rename_i hro
          obtain ⟨v, rs, es, K1, H1⟩ := cq_pop1 HR
          have en := cq_gs_nil (H1 ρ cq_ag.rf).2.2
          subst en
          subst es
          obtain ⟨x, ex, hx⟩ := cq_int K1
          subst ex
          have R := cq_rt_ok (w := some (.int x)) q HE a0 hn0 (fun ρ' a => ⟨(H ρ' a).1, ⟨⟨x, rfl, hx ρ' a⟩, trivial⟩, hf ρ' a⟩) hd K
          refine ⟨_, am_ev.reti hat he ?_, R.ko rfl⟩
          unfold cq_ro at hro
          unfold am_rok
          split at hro
          · rename_i hr
            rw [hr]
          · rename_i hr
            rw [hr]
            obtain ⟨b1, b2⟩ := cq_in_ok (H ρ cq_ag.rf).1.P hro
            rw [← hx ρ cq_ag.rf] at b1 b2
            rcases (show x.toInt = 0 ∨ x.toInt = 1 by omega) with z | z
            · have : x = 0 := Int32.toInt_inj.1 z
              rw [this]; rfl
            · have : x = 1 := Int32.toInt_inj.1 z
              rw [this]; rfl
          · cases hro
        · cases q
      · cases q
    · rename_i he
      split at q
      · rename_i f k
        obtain ⟨v, rs, es, K1, H1⟩ := cq_pop1 HR
        have en := cq_gs_nil (H1 ρ cq_ag.rf).2.2
        subst en
        subst es
        obtain ⟨x, ex, hx⟩ := cq_lng K1
        subst ex
        have R := cq_rt_ok (w := some (.long x)) q HE a0 hn0 (fun ρ' a => ⟨(H ρ' a).1, ⟨⟨x, rfl, hx ρ' a⟩, trivial⟩, hf ρ' a⟩) hd K
        exact ⟨_, am_ev.retl hat he, R.ko rfl⟩
      · cases q
    · rename_i he
      split at q
      · rename_i a
        rw [cond_eq_ite] at q
        split at q
        · rename_i ht
          obtain ⟨v, rs, es, K1, H1⟩ := cq_pop1 HR
          have en := cq_gs_nil (H1 ρ cq_ag.rf).2.2
          subst en
          subst es
          have R := cq_rt_ok (w := some v) q HE a0 hn0 (fun ρ' a => ⟨(H ρ' a).1, ⟨K1 ρ' a, trivial⟩, hf ρ' a⟩) hd K
          rcases cq_tR_ok ht (K1 ρ cq_ag.rf) with z | ⟨x, z⟩
          · subst z
            exact ⟨_, am_ev.retn hat he, R.ko rfl⟩
          · subst z
            exact ⟨_, am_ev.reta hat he, R.ko rfl⟩
        · cases q
      · cases q
    · rename_i he
      split at q
      · have en := cq_gs_nil (H ρ cq_ag.rf).2.2.1
        subst en
        have R := cq_rt_ok (w := none) q HE a0 hn0 (fun ρ' a => ⟨(H ρ' a).1, trivial, hf ρ' a⟩) hd K
        exact ⟨_, am_ev.retv hat he, R.ko rfl⟩
      · cases q
    · rename_i he
      split at q
      · rename_i f k r
        rw [cond_eq_ite] at q
        split at q
        · rename_i hb
          have hb := (Bool.and_eq_true _ _ ▸ hb)
          have ek := am_beq hb.1
          subst ek
          obtain ⟨v, rs, es, K1, H1⟩ := cq_pop1 HR
          subst es
          have ev : v = .ref 79 := K1 ρ cq_ag.rf
          subst ev
          have D := (H ρ cq_ag.rf).1
          have T := cq_tw_ok HE a0 hn0 fr y pc als db ls fs d q (fun ρ' a => ⟨(H ρ' a).1, hls ρ' a, hf ρ' a⟩) hd K
          refine cq_Th.go hat he (Nat.le_of_ble_eq_true hb.2) ?_ T
          have ef := D.I.fx 79 (by decide) (by decide)
          unfold am_isO
          rw [ef, show Nat.blt 79 h.1 = true from Nat.ble_eq_true_of_le (by have := D.I.lo; omega)]
          decide +kernel
        · cases q
      · cases q
    · rename_i x he
      have hi : am_isC e.1 := Or.inl ⟨x, he⟩
      rw [cond_eq_ite] at q
      split at q
      · exact cq_sp_ok (Z := (y, pc, als, ast, fr, db, S)) hat hi q H hd K
      · exact HC e (y, pc, als, ast, fr, db, S) out ρ ls st h fs d a0 hn0 hat hi q H hd K
    · rename_i x he
      have hi : am_isC e.1 := Or.inr (Or.inl ⟨x, he⟩)
      rw [cond_eq_ite] at q
      split at q
      · exact cq_sp_ok (Z := (y, pc, als, ast, fr, db, S)) hat hi q H hd K
      · exact HC e (y, pc, als, ast, fr, db, S) out ρ ls st h fs d a0 hn0 hat hi q H hd K
    · rename_i x he
      have hi : am_isC e.1 := Or.inr (Or.inr ⟨x, he⟩)
      rw [cond_eq_ite] at q
      split at q
      · exact cq_sp_ok (Z := (y, pc, als, ast, fr, db, S)) hat hi q H hd K
      · exact HC e (y, pc, als, ast, fr, db, S) out ρ ls st h fs d a0 hn0 hat hi q H hd K
    · split at q
      · rename_i os hos
        rw [← Option.some.inj q] at K
        have R := cq_ex_ok HR hos
        obtain ⟨r, er, o, ho, rest⟩ := R
        have g := cq_Res.go (y := y) (fr := fr) (db := db) (S := S) (os := os) (r := r) ⟨r, rfl, o, ho, rest⟩ hf hd K
        exact cq_Go.step hat er g
      · rename_i hos
        split at q
        · rename_i idx he
          rw [cond_eq_ite] at q
          split at q
          · cases q
          · rename_i hb
            have hb : Nat.beq e.2.2.2.2.1 0 = false := by
              cases hh : Nat.beq e.2.2.2.2.1 0 with
              | false => rfl
              | true => exact absurd hh hb
            split at q
            · rename_i i hr
              rw [← Option.some.inj q] at K
              obtain ⟨x, g1, g2⟩ := K.one List.mem_cons_self (ls := ls) (st := .ref (7 + i) :: st) (h := h) (fs := fs) (d := d) cq_ag.rf (Nat.le_refl _) (fun ρ' a => ⟨(H ρ' a).1, hls ρ' a, ⟨rfl, (H ρ' a).2.2.1⟩, hf ρ' a⟩) hd
              exact ⟨x, am_ev.ldc hat he (by simp only [am_st, he, hb, cond_false]) hr g1, g2⟩
            · cases q
        · rename_i idx he
          rw [cond_eq_ite] at q
          split at q
          · cases q
          · rename_i hb
            have hb : Nat.beq e.2.2.2.2.1 0 = false := by
              cases hh : Nat.beq e.2.2.2.2.1 0 with
              | false => rfl
              | true => exact absurd hh hb
            split at q
            · rename_i i hr
              rw [← Option.some.inj q] at K
              obtain ⟨x, g1, g2⟩ := K.one List.mem_cons_self (ls := ls) (st := .ref (7 + i) :: st) (h := h) (fs := fs) (d := d) cq_ag.rf (Nat.le_refl _) (fun ρ' a => ⟨(H ρ' a).1, hls ρ' a, ⟨rfl, (H ρ' a).2.2.1⟩, hf ρ' a⟩) hd
              exact ⟨x, am_ev.ldcw hat he (by simp only [am_st, he, hb, cond_false]) hr g1, g2⟩
            · cases q
        · cases q
end CUE
