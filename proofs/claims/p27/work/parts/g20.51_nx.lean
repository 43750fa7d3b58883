/-! THE CHECKER, 23: what comes next -/
def cq_HE (m : cq_W) (h0 : am_H) (ρ0 : Nat → Int) (n0 : Nat) (ck : Bool → List cq_A → cq_S → Bool) (Fin : Option Value × am_H → Prop) : Prop :=
  (∀ vs S h v ρ, ck false vs S = true → cq_ag n0 ρ ρ0 → n0 ≤ S.n → (∀ ρ', cq_ag S.n ρ' ρ → cq_Md m h0 ρ' S h ∧ cq_gs ρ' vs (Option.toList v)) → Fin (v, h)) ∧
  (∀ S h ρ, ck true [] S = true → cq_ag n0 ρ ρ0 → n0 ≤ S.n → (∀ ρ', cq_ag S.n ρ' ρ → cq_Md m h0 ρ' S h) → Fin (some (.retAddr 80), h))
def cq_rt (ck : Bool → List cq_A → cq_S → Bool) (v : List cq_A) (fr : List cq_Fa) (db : Nat) (S : cq_S) : Option (List cq_Z) := match fr with
  | [] => bif ck false v S then some [] else none
  | q :: r => some [(q.1, q.2.1 + 3, q.2.2.1, v ++ q.2.2.2, r, db + 1, S)]
def cq_tw (ck : Bool → List cq_A → cq_S → Bool) (S : cq_S) : List cq_Fa → Nat → Nat → List cq_A → Nat → Option (List cq_Z)
  | [], y, pc, ls, db => (match am_ctc (am_hh y) pc with
    | some hp => some [(y, hp, ls, [cq_rc 79], [], db, S)]
    | none => bif ck true [] S then some [] else none)
  | q :: r, y, pc, ls, db => (match am_ctc (am_hh y) pc with
    | some hp => some [(y, hp, ls, [cq_rc 79], q :: r, db, S)]
    | none => bif Nat.beq (am_in y).2.2.2 0 && Nat.blt 0 q.1 then cq_tw ck S r q.1 q.2.1 q.2.2.1 (db + 1) else none)
section CUC
variable {m : cq_W} {h0 : am_H} {ρ ρ0 : Nat → Int} {n0 : Nat} {h : am_H} {Fin : Option Value × am_H → Prop} {ck : Bool → List cq_A → cq_S → Bool} {out : List cq_Z}
/-- the runs from the next states -/
def cq_Kn (m : cq_W) (h0 : am_H) (ρ : Nat → Int) (n : Nat) (Fin : Option Value × am_H → Prop) (out : List cq_Z) : Prop := ∀ Z ∈ out, ∀ ρ1 ls st h fs d, cq_ag n ρ1 ρ → n ≤ Z.2.2.2.2.2.2.n → cq_Rz m h0 ρ1 Z ls st h fs → Z.2.2.2.2.2.1 ≤ d → cq_Go Fin d Z.1 Z.2.1 ls st h fs
theorem cq_rt_ok {v : List cq_A} {fr : List cq_Fa} {db d : Nat} {S : cq_S} {w : Option Value} {fs : List cq_Fm} (q : cq_rt ck v fr db S = some out) (HE : cq_HE m h0 ρ0 n0 ck Fin) (a0 : cq_ag n0 ρ ρ0) (hn : n0 ≤ S.n) (H : ∀ ρ', cq_ag S.n ρ' ρ → cq_Md m h0 ρ' S h ∧ cq_gs ρ' v w.toList ∧ cq_fg ρ' fr fs) (hd : db ≤ d) (K : cq_Kn m h0 ρ S.n Fin out) : cq_Rt Fin d w h fs := by
  unfold cq_rt at q
  split at q
  · rw [cond_eq_ite] at q
    split at q
    · rename_i hc
      cases fs with
      | nil => exact HE.1 v S h w ρ hc a0 hn fun ρ' a => ⟨(H ρ' a).1, (H ρ' a).2.1⟩
      | cons f r => exact (H ρ cq_ag.rf).2.2.elim
    · cases q
  · rename_i f r
    rw [← Option.some.inj q] at K
    cases fs with
    | nil => exact (H ρ cq_ag.rf).2.2.elim
    | cons c cs =>
      obtain ⟨e1, e2, -⟩ := (H ρ cq_ag.rf).2.2
      have k := K _ List.mem_cons_self ρ c.2.2.1 (w.toList ++ c.2.2.2) h cs (d + 1) cq_ag.rf (Nat.le_refl _) (fun ρ' a => by
        obtain ⟨D, g, -, -, g1, g2, g3⟩ := H ρ' a
        exact ⟨D, g1, cq_gs_app g g2, g3⟩) (Nat.succ_le_succ hd)
      dsimp only at k
      rw [e1, e2] at k
      exact k
theorem cq_tw_ok {S : cq_S} (HE : cq_HE m h0 ρ0 n0 ck Fin) (a0 : cq_ag n0 ρ ρ0) (hn : n0 ≤ S.n) : ∀ (fr : List cq_Fa) (y pc : Nat) (als : List cq_A) (db : Nat) (ls : List Value) (fs : List cq_Fm) (d : Nat), cq_tw ck S fr y pc als db = some out → (∀ ρ', cq_ag S.n ρ' ρ → cq_Md m h0 ρ' S h ∧ cq_gs ρ' als ls ∧ cq_fg ρ' fr fs) → db ≤ d → cq_Kn m h0 ρ S.n Fin out → cq_Th Fin d y pc ls 79 h fs
  | [], y, pc, als, db, ls, fs, d, q, H, hd, K => by
    unfold cq_tw at q
    unfold cq_Th
    cases hh : am_ctc (am_hh y) pc with
    | some hp =>
      rw [hh] at q
      rw [← Option.some.inj q] at K
      exact K _ List.mem_cons_self ρ ls [.ref 79] h fs d cq_ag.rf (Nat.le_refl _) (fun ρ' a => ⟨(H ρ' a).1, (H ρ' a).2.1, ⟨rfl, trivial⟩, (H ρ' a).2.2⟩) hd
    | none =>
      rw [hh] at q
      dsimp only at q ⊢
      rw [cond_eq_ite] at q
      split at q
      · rename_i hc
        cases fs with
        | nil => exact HE.2 S h ρ hc a0 hn fun ρ' a => (H ρ' a).1
        | cons f r => exact (H ρ cq_ag.rf).2.2.elim
      · cases q
  | f :: r, y, pc, als, db, ls, fs, d, q, H, hd, K => by
    unfold cq_tw at q
    unfold cq_Th
    cases hh : am_ctc (am_hh y) pc with
    | some hp =>
      rw [hh] at q
      rw [← Option.some.inj q] at K
      exact K _ List.mem_cons_self ρ ls [.ref 79] h fs d cq_ag.rf (Nat.le_refl _) (fun ρ' a => ⟨(H ρ' a).1, (H ρ' a).2.1, ⟨rfl, trivial⟩, (H ρ' a).2.2⟩) hd
    | none =>
      rw [hh] at q
      dsimp only at q ⊢
      rw [cond_eq_ite] at q
      split at q
      · rename_i hb
        have hb := (Bool.and_eq_true _ _ ▸ hb)
        cases fs with
        | nil => exact (H ρ cq_ag.rf).2.2.elim
        | cons c cs =>
          obtain ⟨e1, e2, -⟩ := (H ρ cq_ag.rf).2.2
          have ih := cq_tw_ok HE a0 hn r f.1 f.2.1 f.2.2.1 (db + 1) c.2.2.1 cs (d + 1) q (fun ρ' a => ⟨(H ρ' a).1, (H ρ' a).2.2.2.2.1, (H ρ' a).2.2.2.2.2.2⟩) (Nat.succ_le_succ hd) K
          unfold cq_Ko
          have eT : am_isT (some (.retAddr (79 + 1))) = some 79 := rfl
          dsimp only
          rw [eT]
          have D := (H ρ cq_ag.rf).1
          refine ⟨am_beq hb.1, by rw [← e1]; exact Nat.le_of_ble_eq_true hb.2, ?_, ?_⟩
          · have ef := D.I.fx 79 (by decide) (by decide)
            unfold am_isO
            rw [ef, show Nat.blt 79 h.1 = true from Nat.ble_eq_true_of_le (by have := D.I.lo; omega)]
            decide +kernel
          · rw [e1, e2] at ih
            unfold cq_Th at ih
            cases h2 : am_ctc (am_hh c.1) c.2.1 with
            | some hp =>
              rw [h2] at ih
              exact ih
            | none =>
              rw [h2] at ih
              exact ih
      · cases q
end CUC
/-- outcomes of a step as states -/
def cq_lf (y : Nat) (fr : List cq_Fa) (db : Nat) (o : cq_O) : cq_Z := (y, o.1, o.2.1, o.2.2.1, fr, db, o.2.2.2)
def cq_sp (m : cq_W) (e : am_E) (Z : cq_Z) : Option (List cq_Z) := match Z with
  | (y, pc, ls, st, fr, db + 1, S) => bif Nat.beq e.2.2.2.1 1000 then (match st with
      | a :: r => bif (cq_cel S a).isSome && cq_c8 r then some [(y, pc + 3, ls, r, fr, db + 1, S)] else none
      | _ => none)
    else bif Nat.beq e.2.2.2.1 1001 then (match cq_acp m (pc + 3) ls st S with
      | some out => some (out.map (cq_lf y fr (db + 1)))
      | none => none)
    else bif (Nat.beq e.2.2.2.1 10 || Nat.beq e.2.2.2.1 57) && Nat.beq e.2.2.2.2.1 0 then (match st with
      | (1, g, _) :: (1, f, _) :: r => bif cq_c8 r then (match cq_mx (Nat.beq e.2.2.2.1 10) S f g with
        | some q => some [(y, pc + 3, ls, q.1 :: r, fr, db + 1, q.2)]
        | none => none) else none
      | _ => none)
    else bif Nat.beq e.2.2.2.1 1003 then (match st with
      | a :: r => (match cq_cel S a with
        | some (c, (2, _, _)) => bif cq_c8 r && Nat.ble 2 db && am_sM e.1 (am_in y).1 1003 then some [(y, pc + 3, ls, cq_i (cq_lnp S c (2, 0, 0)).1 :: r, fr, db + 1, (cq_lnp S c (2, 0, 0)).2)] else none
        | _ => none)
      | _ => none)
    else bif Nat.beq e.2.2.2.1 1004 then (match st with
      | (1, i, _) :: a :: r => (match cq_cel S a with
        | some (c, (2, _, _)) => (match cq_lnp S c (2, 0, 0) with
          | (f, S1) => bif cq_c8 r && Nat.ble 4 db && am_sM e.1 (am_in y).1 1004 && cq_en S1.P i && cq_en S1.P (cq_ac (cq_sub f i) (-1)) then some [(y, pc + 3, ls, (cq_fi S1 0 127).1 :: r, fr, db + 1, (cq_fi S1 0 127).2)] else none)
        | _ => none)
      | _ => none)
    else none
  | _ => none
