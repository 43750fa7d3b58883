/-! THE CHECKER, 19: runs through frames -/
abbrev cq_Fm : Type := Nat × Nat × List Value × List Value
/-- what becomes of a callee's answer -/
def cq_Ko (Fin : Option Value × am_H → Prop) : Nat → List cq_Fm → Nat → Option Value × am_H → Prop
  | _, [], _, x => Fin x
  | d, q :: fs, z, x => match am_isT x.1 with
    | none => ∃ x2, am_ev (d + 1) q.1 (q.2.1 + 3) q.2.2.1 (x.1.toList ++ q.2.2.2) x.2 x2 ∧ cq_Ko Fin (d + 1) fs q.1 x2
    | some a => (am_in z).2.2.2 = 0 ∧ 0 < q.1 ∧ am_isO x.2 a 12 = true ∧ (match am_ctc (am_hh q.1) q.2.1 with
      | some hp => ∃ x2, am_ev (d + 1) q.1 hp q.2.2.1 [.ref a] x.2 x2 ∧ cq_Ko Fin (d + 1) fs q.1 x2
      | none => cq_Ko Fin (d + 1) fs q.1 x)
def cq_Go (Fin : Option Value × am_H → Prop) (d y pc : Nat) (ls st : List Value) (h : am_H) (fs : List cq_Fm) : Prop := ∃ x, am_ev d y pc ls st h x ∧ cq_Ko Fin d fs y x
theorem cq_isT_some {v : Option Value} {a : Nat} (q : am_isT v = some a) : v = some (.retAddr (a + 1)) := by
  unfold am_isT at q
  split at q
  · rw [Option.some.inj q]
  · cases q
section CTA
variable {Fin : Option Value × am_H → Prop} {d y pc : Nat} {ls st : List Value} {h : am_H} {fs : List cq_Fm} {e : am_E}
theorem cq_Go.step {pc' : Nat} {ls' st' : List Value} {h' : am_H} (hc : am_at y pc e) (hs : am_st e pc ls st h = some (pc', ls', st', h')) (q : cq_Go Fin d y pc' ls' st' h' fs) : cq_Go Fin d y pc ls st h fs := by
  obtain ⟨x, q1, q2⟩ := q
  exact ⟨x, am_ev.step hc hs q1, q2⟩
theorem cq_Go.call {as rr : List Value} (hc : am_at y pc e) (hi : am_isC e.1) (nz : 0 < e.2.2.2.1 ∧ e.2.2.2.1 < 264 ∧ e.2.2.2.1 ≠ 10 ∧ e.2.2.2.1 ≠ 57) (hst : st = as.reverse ++ rr) (hlen : as.length = (am_in e.2.2.2.1).2.1) (hcs : am_cs rr ≤ 8) (hrcv : am_rcv e.2.2.2.1 as h = true) (hw : (am_wid as).length ≤ (am_in e.2.2.2.1).2.2.1)
    (q : cq_Go Fin d e.2.2.2.1 0 (am_ent as (am_in e.2.2.2.1).2.2.1) [] h ((y, pc, ls, rr) :: fs)) : cq_Go Fin (d + 1) y pc ls st h fs := by
  obtain ⟨x, q1, q2⟩ := q
  obtain ⟨v, h2⟩ := x
  unfold cq_Ko at q2
  dsimp only at q2
  cases hT : am_isT v with
  | none =>
    rw [hT] at q2
    obtain ⟨x2, k1, k2⟩ := q2
    exact ⟨x2, am_ev.call hc hi nz hst hlen hcs hrcv hw q1 hT k1, k2⟩
  | some a =>
    rw [hT] at q2
    obtain ⟨k1, k2, k3, k4⟩ := q2
    have ev := cq_isT_some hT
    subst ev
    cases hh : am_ctc (am_hh y) pc with
    | some hp =>
      rw [hh] at k4
      obtain ⟨x2, j1, j2⟩ := k4
      exact ⟨x2, am_ev.callC hc hi nz hst hlen hcs hrcv hw q1 k1 k2 k3 hh j1, j2⟩
    | none =>
      rw [hh] at k4
      exact ⟨_, am_ev.callT hc hi nz hst hlen hcs hrcv hw q1 k1 k2 k3 hh, k4⟩
/-- an answer goes to the frame below -/
def cq_Rt (Fin : Option Value × am_H → Prop) (d : Nat) (v : Option Value) (h : am_H) (fs : List cq_Fm) : Prop := match fs with
  | [] => Fin (v, h)
  | q :: r => cq_Go Fin (d + 1) q.1 (q.2.1 + 3) q.2.2.1 (v.toList ++ q.2.2.2) h r
theorem cq_Rt.ko {v : Option Value} (hv : am_isT v = none) (q : cq_Rt Fin d v h fs) : cq_Ko Fin d fs y (v, h) := by
  cases fs with
  | nil => exact q
  | cons f r =>
    unfold cq_Ko
    dsimp only
    rw [hv]
    exact q
/-- a throw goes to the frame below -/
def cq_Th (Fin : Option Value × am_H → Prop) (d y pc : Nat) (ls : List Value) (a : Nat) (h : am_H) (fs : List cq_Fm) : Prop := match am_ctc (am_hh y) pc with
  | some hp => cq_Go Fin d y hp ls [.ref a] h fs
  | none => cq_Ko Fin d fs y (some (.retAddr (a + 1)), h)
theorem cq_Th.go {a : Nat} {rr : List Value} (hc : am_at y pc e) (he : e.1 = .athrow) (hy : 0 < y) (ha : am_isO h a 12 = true) (q : cq_Th Fin d y pc ls a h fs) : cq_Go Fin d y pc ls (.ref a :: rr) h fs := by
  unfold cq_Th at q
  cases hh : am_ctc (am_hh y) pc with
  | some hp =>
    rw [hh] at q
    obtain ⟨x, q1, q2⟩ := q
    exact ⟨x, am_ev.thrC hc he hy ha hh q1, q2⟩
  | none =>
    rw [hh] at q
    exact ⟨_, am_ev.thrT hc he hy ha hh, q⟩
end CTA
