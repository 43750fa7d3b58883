/-! RUNS OF THE PLAIN MACHINE: more fuel does no harm; rules for runs -/
def am_lew (rc rc' : am_F) : Prop := ∀ d y pc ls st h x, rc d y pc ls st h = some x → rc' d y pc ls st h = some x
section AMV
variable {rc rc' : am_F} {d y pc : Nat} {ls st : List Value} {h : am_H} {x : Option Value × am_H}
theorem am_thr_mono (hr : am_lew rc rc') {a : Nat} (q : am_thr rc d y pc ls a h = some x) : am_thr rc' d y pc ls a h = some x := by
  unfold am_thr at q ⊢
  simp only [cond_eq_ite] at q ⊢
  split at q
  · rename_i hc
    rw [if_pos hc]
    split at q
    · rename_i hp he
      try simp only [he]
      exact hr _ _ _ _ _ _ _ q
    · rename_i he
      try simp only [he]
      exact q
  · cases q
theorem am_lds_mono (hr : am_lew rc rc') {e : am_E} (q : am_lds rc d y pc ls st h e = some x) : am_lds rc' d y pc ls st h e = some x := by
  unfold am_lds at q ⊢
  split at q
  · rename_i idx hi
    try simp only [hi]
    split at q
    · rename_i i hs
      try simp only [hs]
      exact hr _ _ _ _ _ _ _ q
    · cases q
  · rename_i idx hi
    try simp only [hi]
    split at q
    · rename_i i hs
      try simp only [hs]
      exact hr _ _ _ _ _ _ _ q
    · cases q
  · cases q
theorem am_cas_mono (hr : am_lew rc rc') {e : am_E} (q : am_cas rc d y pc ls st h e = some x) : am_cas rc' d y pc ls st h e = some x := by
  unfold am_cas at q ⊢
  split at q
  · cases q
  · rename_i d'
    simp only [cond_eq_ite] at q ⊢
    split at q
    · rename_i hz
      rw [if_pos hz]
      split at q
      · split at q
        · rename_i hc
          try dsimp only
          rw [if_pos hc]
          exact hr _ _ _ _ _ _ _ q
        · cases q
      · cases q
    · rename_i hz
      rw [if_neg hz]
      split at q
      · split at q
        · rename_i hc
          try dsimp only
          rw [if_pos hc]
          exact hr _ _ _ _ _ _ _ q
        · cases q
      · cases q
theorem am_cal0_mono (hr : am_lew rc rc') {e : am_E} (q : am_cal0 rc d y pc ls st h e = some x) : am_cal0 rc' d y pc ls st h e = some x := by
  unfold am_cal0 at q ⊢
  split at q
  · cases q
  · rename_i d'
    simp only [cond_eq_ite] at q ⊢
    split at q
    · rename_i hz
      rw [if_pos hz]
      split at q
      · split at q
        · rename_i hc
          try dsimp only
          rw [if_pos hc]
          exact hr _ _ _ _ _ _ _ q
        · cases q
      · cases q
    · rename_i hz
      rw [if_neg hz]
      split at q
      · rename_i hz
        rw [if_pos hz]
        split at q
        · split at q
          · rename_i hc
            try dsimp only
            rw [if_pos hc]
            split at q
            · rename_i h2 hcp
              try simp only [hcp]
              exact hr _ _ _ _ _ _ _ q
            · cases q
          · cases q
        · cases q
      · rename_i hz
        rw [if_neg hz]
        split at q
        · rename_i hz
          rw [if_pos hz]
          split at q
          · split at q
            · rename_i hc
              try dsimp only
              rw [if_pos hc]
              exact hr _ _ _ _ _ _ _ q
            · cases q
          · cases q
        · rename_i hz
          rw [if_neg hz]
          split at q
          · rename_i hz
            rw [if_pos hz]
            split at q
            · split at q
              · rename_i hc
                try dsimp only
                rw [if_pos hc]
                exact hr _ _ _ _ _ _ _ q
              · cases q
            · cases q
          · rename_i hz
            rw [if_neg hz]
            split at q
            · rename_i hz
              rw [if_pos hz]
              split at q
              · split at q
                · rename_i hc
                  try dsimp only
                  rw [if_pos hc]
                  exact hr _ _ _ _ _ _ _ q
                · cases q
              · cases q
            · rename_i hz
              rw [if_neg hz]
              split at q
              · rename_i hc
                rw [if_pos hc]
                split at q
                · rename_i v h2 he
                  have he2 := hr _ _ _ _ _ _ _ he
                  try simp only [he2]
                  split at q
                  · rename_i a ha
                    try simp only [ha]
                    split at q
                    · rename_i hk
                      rw [if_pos hk]
                      exact am_thr_mono hr q
                    · cases q
                  · rename_i ha
                    try simp only [ha]
                    exact hr _ _ _ _ _ _ _ q
                · cases q
              · cases q
theorem am_cal_mono (hr : am_lew rc rc') {e : am_E} (q : am_cal rc d y pc ls st h e = some x) : am_cal rc' d y pc ls st h e = some x := by
  unfold am_cal at q ⊢
  simp only [cond_eq_ite] at q ⊢
  split at q
  · rename_i hz
    rw [if_pos hz]
    exact am_cas_mono hr q
  · rename_i hz
    rw [if_neg hz]
    exact am_cal0_mono hr q
theorem am_one_mono (hr : am_lew rc rc') (q : am_one rc d y pc ls st h = some x) : am_one rc' d y pc ls st h = some x := by
  unfold am_one at q ⊢
  split at q
  · cases q
  · rename_i e hc
    try simp only [hc]
    split at q
    · rename_i hi
      try simp only [hi]
      exact q
    · rename_i hi
      try simp only [hi]
      exact q
    · rename_i hi
      try simp only [hi]
      exact q
    · rename_i hi
      try simp only [hi]
      exact q
    · rename_i hi
      try simp only [hi]
      split at q
      · exact am_thr_mono hr q
      · cases q
    · rename_i i hi
      try simp only [hi]
      exact am_cal_mono hr q
    · rename_i i hi
      try simp only [hi]
      exact am_cal_mono hr q
    · rename_i i hi
      try simp only [hi]
      exact am_cal_mono hr q
    · split at q
      · rename_i hs
        try simp only [hs]
        exact hr _ _ _ _ _ _ _ q
      · rename_i hs
        try simp only [hs]
        exact am_lds_mono hr q
end AMV
theorem am_run_up : ∀ n, am_lew (am_run n) (am_run (n + 1))
  | 0 => fun _ _ _ _ _ _ _ q => by cases q
  | n + 1 => fun d y pc ls st h x q => by
    rw [am_run_s] at q ⊢
    exact am_one_mono (am_run_up n) q
theorem am_run_le {n k d y pc : Nat} {ls st : List Value} {h : am_H} {x : Option Value × am_H} (hk : n ≤ k) (q : am_run n d y pc ls st h = some x) : am_run k d y pc ls st h = some x := by
  induction hk with
  | refl => exact q
  | step _ ih => exact am_run_up _ _ _ _ _ _ _ _ ih
/-- the machine comes from a place to an answer -/
def am_ev (d y pc : Nat) (ls st : List Value) (h : am_H) (x : Option Value × am_H) : Prop := ∃ n, am_run n d y pc ls st h = some x
section AMW
variable {d y pc : Nat} {ls st : List Value} {h : am_H} {x : Option Value × am_H}
theorem am_ev.one (q : ∃ n, am_one (am_run n) d y pc ls st h = some x) : am_ev d y pc ls st h x := by
  obtain ⟨n, q⟩ := q
  exact ⟨n + 1, by rw [am_run_s]; exact q⟩
def am_at (y pc : Nat) (e : am_E) : Prop := (bif Nat.blt y am_NM && Nat.blt pc (am_bd y) then am_code y pc else none) = some e
theorem am_cal_gen {rc : am_F} {e : am_E} {as rr : List Value} {v : Option Value} {h2 : am_H} (nz : 0 < e.2.2.2.1 ∧ e.2.2.2.1 < 264 ∧ e.2.2.2.1 ≠ 10 ∧ e.2.2.2.1 ≠ 57) (hst : st = as.reverse ++ rr) (hlen : as.length = (am_in e.2.2.2.1).2.1) (hcs : am_cs rr ≤ 8) (hrcv : am_rcv e.2.2.2.1 as h = true) (hw : (am_wid as).length ≤ (am_in e.2.2.2.1).2.2.1) (q1 : rc d e.2.2.2.1 0 (am_ent as (am_in e.2.2.2.1).2.2.1) [] h = some (v, h2)) :
    am_cal rc (d + 1) y pc ls st h e = (match am_isT v with
      | some a => bif Nat.beq (am_in e.2.2.2.1).2.2.2 0 then am_thr rc (d + 1) y pc ls a h2 else none
      | none => rc (d + 1) y (pc + 3) ls (v.toList ++ rr) h2) := by
  have hb : ∀ k, e.2.2.2.1 ≠ k → Nat.beq e.2.2.2.1 k = false := fun k hk => by
    cases hh : Nat.beq e.2.2.2.1 k with
    | false => rfl
    | true => exact absurd (am_beq hh) hk
  obtain ⟨z0, z1, z2, z3⟩ := nz
  have hl : st.length = as.length + rr.length := by rw [hst, List.length_append, List.length_reverse]
  obtain ⟨e1, e2⟩ := List.append_inj ((List.take_append_drop (am_in e.2.2.2.1).2.1 st).trans hst) (by rw [List.length_take, List.length_reverse]; omega)
  have c1 : Nat.blt 0 e.2.2.2.1 = true := Nat.ble_eq_true_of_le z0
  have c2 : Nat.ble (am_in e.2.2.2.1).2.1 st.length = true := Nat.ble_eq_true_of_le (by omega)
  have c3 : Nat.ble (am_cs rr) 8 = true := Nat.ble_eq_true_of_le hcs
  have c4 : Nat.ble (am_wid as).length (am_in e.2.2.2.1).2.2.1 = true := Nat.ble_eq_true_of_le hw
  unfold am_cal am_cal0
  simp only [hb 1003 (by omega), hb 1004 (by omega), hb 1000 (by omega), hb 1001 (by omega), hb 1002 (by omega), hb 10 z2, hb 57 z3, e1, e2, List.reverse_reverse, c1, c2, c3, c4, hrcv, q1, Bool.or_self, Bool.and_self, cond_true, cond_false]
  cases am_isT v <;> rfl
/-- a call that comes back -/
theorem am_ev.call {e : am_E} {as rr : List Value} {v : Option Value} {h2 : am_H} (hc : am_at y pc e) (hi : am_isC e.1) (nz : 0 < e.2.2.2.1 ∧ e.2.2.2.1 < 264 ∧ e.2.2.2.1 ≠ 10 ∧ e.2.2.2.1 ≠ 57) (hst : st = as.reverse ++ rr) (hlen : as.length = (am_in e.2.2.2.1).2.1) (hcs : am_cs rr ≤ 8) (hrcv : am_rcv e.2.2.2.1 as h = true) (hw : (am_wid as).length ≤ (am_in e.2.2.2.1).2.2.1)
    (q1 : am_ev d e.2.2.2.1 0 (am_ent as (am_in e.2.2.2.1).2.2.1) [] h (v, h2)) (hv : am_isT v = none) (q2 : am_ev (d + 1) y (pc + 3) ls (v.toList ++ rr) h2 x) : am_ev (d + 1) y pc ls st h x := by
  obtain ⟨n1, q1⟩ := q1
  obtain ⟨n2, q2⟩ := q2
  refine am_ev.one ⟨max n1 n2, ?_⟩
  have g1 := am_run_le (Nat.le_max_left n1 n2) q1
  have g2 := am_run_le (Nat.le_max_right n1 n2) q2
  have g := am_cal_gen (y := y) (pc := pc) (ls := ls) nz hst hlen hcs hrcv hw g1
  simp only [hv] at g
  rw [g2] at g
  unfold am_one
  rw [show (bif Nat.blt y am_NM && Nat.blt pc (am_bd y) then am_code y pc else none) = some e from hc]
  rcases hi with ⟨j, e1⟩ | ⟨j, e1⟩ | ⟨j, e1⟩ <;> (simp only [e1]; exact g)
/-- a call that throws: the place of the call finds a handler -/
theorem am_ev.callC {e : am_E} {as rr : List Value} {a hp : Nat} {h2 : am_H} (hc : am_at y pc e) (hi : am_isC e.1) (nz : 0 < e.2.2.2.1 ∧ e.2.2.2.1 < 264 ∧ e.2.2.2.1 ≠ 10 ∧ e.2.2.2.1 ≠ 57) (hst : st = as.reverse ++ rr) (hlen : as.length = (am_in e.2.2.2.1).2.1) (hcs : am_cs rr ≤ 8) (hrcv : am_rcv e.2.2.2.1 as h = true) (hw : (am_wid as).length ≤ (am_in e.2.2.2.1).2.2.1)
    (q1 : am_ev d e.2.2.2.1 0 (am_ent as (am_in e.2.2.2.1).2.2.1) [] h (some (.retAddr (a + 1)), h2)) (hk : (am_in e.2.2.2.1).2.2.2 = 0) (hy : 0 < y) (ha : am_isO h2 a 12 = true) (hh : am_ctc (am_hh y) pc = some hp) (q2 : am_ev (d + 1) y hp ls [.ref a] h2 x) : am_ev (d + 1) y pc ls st h x := by
  obtain ⟨n1, q1⟩ := q1
  obtain ⟨n2, q2⟩ := q2
  refine am_ev.one ⟨max n1 n2, ?_⟩
  have g1 := am_run_le (Nat.le_max_left n1 n2) q1
  have g2 := am_run_le (Nat.le_max_right n1 n2) q2
  have g := am_cal_gen (y := y) (pc := pc) (ls := ls) nz hst hlen hcs hrcv hw g1
  have hb : Nat.blt 0 y = true := Nat.ble_eq_true_of_le hy
  simp only [am_isT, hk, am_thr, ha, hb, hh, Bool.and_self, cond_true, g2, Nat.beq_refl] at g
  unfold am_one
  rw [show (bif Nat.blt y am_NM && Nat.blt pc (am_bd y) then am_code y pc else none) = some e from hc]
  rcases hi with ⟨j, e1⟩ | ⟨j, e1⟩ | ⟨j, e1⟩ <;> (simp only [e1]; exact g)
/-- a call that throws: no handler, the method throws too -/
theorem am_ev.callT {e : am_E} {as rr : List Value} {a : Nat} {h2 : am_H} (hc : am_at y pc e) (hi : am_isC e.1) (nz : 0 < e.2.2.2.1 ∧ e.2.2.2.1 < 264 ∧ e.2.2.2.1 ≠ 10 ∧ e.2.2.2.1 ≠ 57) (hst : st = as.reverse ++ rr) (hlen : as.length = (am_in e.2.2.2.1).2.1) (hcs : am_cs rr ≤ 8) (hrcv : am_rcv e.2.2.2.1 as h = true) (hw : (am_wid as).length ≤ (am_in e.2.2.2.1).2.2.1)
    (q1 : am_ev d e.2.2.2.1 0 (am_ent as (am_in e.2.2.2.1).2.2.1) [] h (some (.retAddr (a + 1)), h2)) (hk : (am_in e.2.2.2.1).2.2.2 = 0) (hy : 0 < y) (ha : am_isO h2 a 12 = true) (hh : am_ctc (am_hh y) pc = none) : am_ev (d + 1) y pc ls st h (some (.retAddr (a + 1)), h2) := by
  obtain ⟨n1, q1⟩ := q1
  refine am_ev.one ⟨n1, ?_⟩
  have g := am_cal_gen (y := y) (pc := pc) (ls := ls) nz hst hlen hcs hrcv hw q1
  have hb : Nat.blt 0 y = true := Nat.ble_eq_true_of_le hy
  simp only [am_isT, hk, am_thr, ha, hb, hh, Bool.and_self, cond_true, Nat.beq_refl] at g
  unfold am_one
  rw [show (bif Nat.blt y am_NM && Nat.blt pc (am_bd y) then am_code y pc else none) = some e from hc]
  rcases hi with ⟨j, e1⟩ | ⟨j, e1⟩ | ⟨j, e1⟩ <;> (simp only [e1]; exact g)
/-- a step that is no call, no return and no throw -/
theorem am_ev.step {e : am_E} {pc' : Nat} {ls' st' : List Value} {h' : am_H} (hc : am_at y pc e) (hs : am_st e pc ls st h = some (pc', ls', st', h')) (q : am_ev d y pc' ls' st' h' x) : am_ev d y pc ls st h x := by
  obtain ⟨n, q⟩ := q
  refine am_ev.one ⟨n, ?_⟩
  unfold am_one
  rw [show (bif Nat.blt y am_NM && Nat.blt pc (am_bd y) then am_code y pc else none) = some e from hc]
  dsimp only
  split
  · rename_i hi
    simp [am_st, hi] at hs
  · rename_i hi
    simp [am_st, hi] at hs
  · rename_i hi
    simp [am_st, hi] at hs
  · rename_i hi
    simp [am_st, hi] at hs
  · rename_i hi
    simp [am_st, hi] at hs
  · rename_i hi
    simp [am_st, hi] at hs
  · rename_i hi
    simp [am_st, hi] at hs
  · rename_i hi
    simp [am_st, hi] at hs
  · rw [hs]
    exact q
end AMW
