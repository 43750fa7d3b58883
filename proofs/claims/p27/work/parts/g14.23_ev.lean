section
/-! RUNS OF THE PLAIN MACHINE: more fuel does no harm; rules for runs -/
def am_lew (rc rc' : am_F) : Prop := ∀ d y pc ls st h x, rc d y pc ls st h = some x → rc' d y pc ls st h = some x
section AMV
variable {rc rc' : am_F} {d y pc : Nat} {ls st : List Value} {h : am_H} {x : Option Value × am_H}
theorem am_thr_mono (hr : am_lew rc rc') {a : Nat} (q : am_thr rc d y pc ls a h = some x) : am_thr rc' d y pc ls a h = some x := by
  unfold am_thr at q ⊢
  simp only [cond_eq_ite] at q ⊢
  split at q
  · rename_i hc
    rw [if_pos hc]
    split at q
    · rename_i hp he
      try simp only [he]
      exact hr _ _ _ _ _ _ _ q
    · rename_i he
      try simp only [he]
      exact q
  · cases q
theorem am_lds_mono (hr : am_lew rc rc') {e : am_E} (q : am_lds rc d y pc ls st h e = some x) : am_lds rc' d y pc ls st h e = some x := by
  unfold am_lds at q ⊢
  split at q
  · rename_i idx hi
    try simp only [hi]
    split at q
    · rename_i i hs
      try simp only [hs]
      exact hr _ _ _ _ _ _ _ q
    · cases q
  · rename_i idx hi
    try simp only [hi]
    split at q
    · rename_i i hs
      try simp only [hs]
      exact hr _ _ _ _ _ _ _ q
    · cases q
  · cases q
theorem am_cas_mono (hr : am_lew rc rc') {e : am_E} (q : am_cas rc d y pc ls st h e = some x) : am_cas rc' d y pc ls st h e = some x := by
  unfold am_cas at q ⊢
  split at q
  · cases q
  · rename_i d'
    simp only [cond_eq_ite] at q ⊢
    split at q
    · rename_i hz
      rw [if_pos hz]
      split at q
      · split at q
        · rename_i hc
          try dsimp only
          rw [if_pos hc]
          exact hr _ _ _ _ _ _ _ q
        · cases q
      · cases q
    · rename_i hz
      rw [if_neg hz]
      split at q
      · split at q
        · rename_i hc
          try dsimp only
          rw [if_pos hc]
          exact hr _ _ _ _ _ _ _ q
        · cases q
      · cases q
theorem am_cal0_mono (hr : am_lew rc rc') {e : am_E} (q : am_cal0 rc d y pc ls st h e = some x) : am_cal0 rc' d y pc ls st h e = some x := by
  unfold am_cal0 at q ⊢
  split at q
  · cases q
  · rename_i d'
    simp only [cond_eq_ite] at q ⊢
    split at q
    · rename_i hz
      rw [if_pos hz]
      split at q
      · split at q
        · rename_i hc
          try dsimp only
          rw [if_pos hc]
          exact hr _ _ _ _ _ _ _ q
        · cases q
      · cases q
    · rename_i hz
      rw [if_neg hz]
      split at q
      · rename_i hz
        rw [if_pos hz]
        split at q
        · split at q
          · rename_i hc
            try dsimp only
            rw [if_pos hc]
            split at q
            · rename_i h2 hcp
              try simp only [hcp]
              exact hr _ _ _ _ _ _ _ q
            · cases q
          · cases q
        · cases q
      · rename_i hz
        rw [if_neg hz]
        split at q
        · rename_i hz
          rw [if_pos hz]
          split at q
          · split at q
            · rename_i hc
              try dsimp only
              rw [if_pos hc]
              exact hr _ _ _ _ _ _ _ q
            · cases q
          · cases q
        · rename_i hz
          rw [if_neg hz]
          split at q
          · rename_i hz
            rw [if_pos hz]
            split at q
            · split at q
              · rename_i hc
                try dsimp only
                rw [if_pos hc]
                exact hr _ _ _ _ _ _ _ q
              · cases q
            · cases q
          · rename_i hz
            rw [if_neg hz]
            split at q
            · rename_i hz
              rw [if_pos hz]
              split at q
              · split at q
                · rename_i hc
                  try dsimp only
                  rw [if_pos hc]
                  exact hr _ _ _ _ _ _ _ q
                · cases q
              · cases q
            · rename_i hz
              rw [if_neg hz]
              split at q
              · rename_i hc
                rw [if_pos hc]
                split at q
                · rename_i v h2 he
                  have he2 := hr _ _ _ _ _ _ _ he
                  try simp only [he2]
                  split at q
                  · rename_i a ha
                    try simp only [ha]
                    split at q
                    · rename_i hk
                      rw [if_pos hk]
                      exact am_thr_mono hr q
                    · cases q
                  · rename_i ha
                    try simp only [ha]
                    exact hr _ _ _ _ _ _ _ q
                · cases q
              · cases q
theorem am_cal_mono (hr : am_lew rc rc') {e : am_E} (q : am_cal rc d y pc ls st h e = some x) : am_cal rc' d y pc ls st h e = some x := by
  unfold am_cal at q ⊢
  simp only [cond_eq_ite] at q ⊢
  split at q
  · rename_i hz
    rw [if_pos hz]
    exact am_cas_mono hr q
  · rename_i hz
    rw [if_neg hz]
    exact am_cal0_mono hr q
theorem am_one_mono (hr : am_lew rc rc') (q : am_one rc d y pc ls st h = some x) : am_one rc' d y pc ls st h = some x := by
  unfold am_one at q ⊢
  split at q
  · cases q
  · rename_i e hc
    try simp only [hc]
    split at q
    · rename_i hi
      try simp only [hi]
      exact q
    · rename_i hi
      try simp only [hi]
      exact q
    · rename_i hi
      try simp only [hi]
      exact q
    · rename_i hi
      try simp only [hi]
      exact q
    · rename_i hi
      try simp only [hi]
      split at q
      · exact am_thr_mono hr q
      · cases q
    · rename_i i hi
      try simp only [hi]
      exact am_cal_mono hr q
    · rename_i i hi
      try simp only [hi]
      exact am_cal_mono hr q
    · rename_i i hi
      try simp only [hi]
      exact am_cal_mono hr q
    · split at q
      · rename_i hs
        try simp only [hs]
        exact hr _ _ _ _ _ _ _ q
      · rename_i hs
        try simp only [hs]
        exact am_lds_mono hr q
end AMV
theorem am_run_up : ∀ n, am_lew (am_run n) (am_run (n + 1))
  | 0 => fun _ _ _ _ _ _ _ q => by cases q
  | n + 1 => fun d y pc ls st h x q => by
    rw [am_run_s] at q ⊢
    exact am_one_mono (am_run_up n) q
theorem am_run_le {n k d y pc : Nat} {ls st : List Value} {h : am_H} {x : Option Value × am_H} (hk : n ≤ k) (q : am_run n d y pc ls st h = some x) : am_run k d y pc ls st h = some x := by
  induction hk with
  | refl => exact q
  | step _ ih => exact am_run_up _ _ _ _ _ _ _ _ ih
/-- the machine comes from a place to an answer -/
def am_ev (d y pc : Nat) (ls st : List Value) (h : am_H) (x : Option Value × am_H) : Prop := ∃ n, am_run n d y pc ls st h = some x
section AMW
variable {d y pc : Nat} {ls st : List Value} {h : am_H} {x : Option Value × am_H}
theorem am_ev.one (q : ∃ n, am_one (am_run n) d y pc ls st h = some x) : am_ev d y pc ls st h x := by
  obtain ⟨n, q⟩ := q
  exact ⟨n + 1, by rw [am_run_s]; exact q⟩
def am_at (y pc : Nat) (e : am_E) : Prop := (bif Nat.blt y am_NM && Nat.blt pc (am_bd y) then am_code y pc else none) = some e
theorem am_cal_gen {rc : am_F} {e : am_E} {as rr : List Value} {v : Option Value} {h2 : am_H} (nz : 0 < e.2.2.2.1 ∧ e.2.2.2.1 < 264 ∧ e.2.2.2.1 ≠ 10 ∧ e.2.2.2.1 ≠ 57) (hst : st = as.reverse ++ rr) (hlen : as.length = (am_in e.2.2.2.1).2.1) (hcs : am_cs rr ≤ 8) (hrcv : am_rcv e.2.2.2.1 as h = true) (hw : (am_wid as).length ≤ (am_in e.2.2.2.1).2.2.1) (q1 : rc d e.2.2.2.1 0 (am_ent as (am_in e.2.2.2.1).2.2.1) [] h = some (v, h2)) :
    am_cal rc (d + 1) y pc ls st h e = (match am_isT v with
      | some a => bif Nat.beq (am_in e.2.2.2.1).2.2.2 0 then am_thr rc (d + 1) y pc ls a h2 else none
      | none => rc (d + 1) y (pc + 3) ls (v.toList ++ rr) h2) := by
  have hb : ∀ k, e.2.2.2.1 ≠ k → Nat.beq e.2.2.2.1 k = false := fun k hk => by
    cases hh : Nat.beq e.2.2.2.1 k with
    | false => rfl
    | true => exact absurd (am_beq hh) hk
  obtain ⟨z0, z1, z2, z3⟩ := nz
  have hl : st.length = as.length + rr.length := by rw [hst, List.length_append, List.length_reverse]
  obtain ⟨e1, e2⟩ := List.append_inj ((List.take_append_drop (am_in e.2.2.2.1).2.1 st).trans hst) (by rw [List.length_take, List.length_reverse]; omega)
  have c1 : Nat.blt 0 e.2.2.2.1 = true := Nat.ble_eq_true_of_le z0
  have c2 : Nat.ble (am_in e.2.2.2.1).2.1 st.length = true := Nat.ble_eq_true_of_le (by omega)
  have c3 : Nat.ble (am_cs rr) 8 = true := Nat.ble_eq_true_of_le hcs
  have c4 : Nat.ble (am_wid as).length (am_in e.2.2.2.1).2.2.1 = true := Nat.ble_eq_true_of_le hw
  unfold am_cal am_cal0
  simp only [hb 1003 (by omega), hb 1004 (by omega), hb 1000 (by omega), hb 1001 (by omega), hb 1002 (by omega), hb 10 z2, hb 57 z3, e1, e2, List.reverse_reverse, c1, c2, c3, c4, hrcv, q1, Bool.or_self, Bool.and_self, cond_true, cond_false]
  cases am_isT v <;> rfl
/-- a call that comes back -/
theorem am_ev.call {e : am_E} {as rr : List Value} {v : Option Value} {h2 : am_H} (hc : am_at y pc e) (hi : am_isC e.1) (nz : 0 < e.2.2.2.1 ∧ e.2.2.2.1 < 264 ∧ e.2.2.2.1 ≠ 10 ∧ e.2.2.2.1 ≠ 57) (hst : st = as.reverse ++ rr) (hlen : as.length = (am_in e.2.2.2.1).2.1) (hcs : am_cs rr ≤ 8) (hrcv : am_rcv e.2.2.2.1 as h = true) (hw : (am_wid as).length ≤ (am_in e.2.2.2.1).2.2.1)
    (q1 : am_ev d e.2.2.2.1 0 (am_ent as (am_in e.2.2.2.1).2.2.1) [] h (v, h2)) (hv : am_isT v = none) (q2 : am_ev (d + 1) y (pc + 3) ls (v.toList ++ rr) h2 x) : am_ev (d + 1) y pc ls st h x := by
  obtain ⟨n1, q1⟩ := q1
  obtain ⟨n2, q2⟩ := q2
  refine am_ev.one ⟨max n1 n2, ?_⟩
  have g1 := am_run_le (Nat.le_max_left n1 n2) q1
  have g2 := am_run_le (Nat.le_max_right n1 n2) q2
  have g := am_cal_gen (y := y) (pc := pc) (ls := ls) nz hst hlen hcs hrcv hw g1
  simp only [hv] at g
  rw [g2] at g
  unfold am_one
  rw [show (bif Nat.blt y am_NM && Nat.blt pc (am_bd y) then am_code y pc else none) = some e from hc]
  rcases hi with ⟨j, e1⟩ | ⟨j, e1⟩ | ⟨j, e1⟩ <;> (simp only [e1]; exact g)
/-- a call that throws: the place of the call finds a handler -/
theorem am_ev.callC {e : am_E} {as rr : List Value} {a hp : Nat} {h2 : am_H} (hc : am_at y pc e) (hi : am_isC e.1) (nz : 0 < e.2.2.2.1 ∧ e.2.2.2.1 < 264 ∧ e.2.2.2.1 ≠ 10 ∧ e.2.2.2.1 ≠ 57) (hst : st = as.reverse ++ rr) (hlen : as.length = (am_in e.2.2.2.1).2.1) (hcs : am_cs rr ≤ 8) (hrcv : am_rcv e.2.2.2.1 as h = true) (hw : (am_wid as).length ≤ (am_in e.2.2.2.1).2.2.1)
    (q1 : am_ev d e.2.2.2.1 0 (am_ent as (am_in e.2.2.2.1).2.2.1) [] h (some (.retAddr (a + 1)), h2)) (hk : (am_in e.2.2.2.1).2.2.2 = 0) (hy : 0 < y) (ha : am_isO h2 a 12 = true) (hh : am_ctc (am_hh y) pc = some hp) (q2 : am_ev (d + 1) y hp ls [.ref a] h2 x) : am_ev (d + 1) y pc ls st h x := by
  obtain ⟨n1, q1⟩ := q1
  obtain ⟨n2, q2⟩ := q2
  refine am_ev.one ⟨max n1 n2, ?_⟩
  have g1 := am_run_le (Nat.le_max_left n1 n2) q1
  have g2 := am_run_le (Nat.le_max_right n1 n2) q2
  have g := am_cal_gen (y := y) (pc := pc) (ls := ls) nz hst hlen hcs hrcv hw g1
  have hb : Nat.blt 0 y = true := Nat.ble_eq_true_of_le hy
  simp only [am_isT, hk, am_thr, ha, hb, hh, Bool.and_self, cond_true, g2, Nat.beq_refl] at g
  unfold am_one
  rw [show (bif Nat.blt y am_NM && Nat.blt pc (am_bd y) then am_code y pc else none) = some e from hc]
  rcases hi with ⟨j, e1⟩ | ⟨j, e1⟩ | ⟨j, e1⟩ <;> (simp only [e1]; exact g)
/-- a call that throws: no handler, the method throws too -/
theorem am_ev.callT {e : am_E} {as rr : List Value} {a : Nat} {h2 : am_H} (hc : am_at y pc e) (hi : am_isC e.1) (nz : 0 < e.2.2.2.1 ∧ e.2.2.2.1 < 264 ∧ e.2.2.2.1 ≠ 10 ∧ e.2.2.2.1 ≠ 57) (hst : st = as.reverse ++ rr) (hlen : as.length = (am_in e.2.2.2.1).2.1) (hcs : am_cs rr ≤ 8) (hrcv : am_rcv e.2.2.2.1 as h = true) (hw : (am_wid as).length ≤ (am_in e.2.2.2.1).2.2.1)
    (q1 : am_ev d e.2.2.2.1 0 (am_ent as (am_in e.2.2.2.1).2.2.1) [] h (some (.retAddr (a + 1)), h2)) (hk : (am_in e.2.2.2.1).2.2.2 = 0) (hy : 0 < y) (ha : am_isO h2 a 12 = true) (hh : am_ctc (am_hh y) pc = none) : am_ev (d + 1) y pc ls st h (some (.retAddr (a + 1)), h2) := by
  obtain ⟨n1, q1⟩ := q1
  refine am_ev.one ⟨n1, ?_⟩
  have g := am_cal_gen (y := y) (pc := pc) (ls := ls) nz hst hlen hcs hrcv hw q1
  have hb : Nat.blt 0 y = true := Nat.ble_eq_true_of_le hy
  simp only [am_isT, hk, am_thr, ha, hb, hh, Bool.and_self, cond_true, Nat.beq_refl] at g
  unfold am_one
  rw [show (bif Nat.blt y am_NM && Nat.blt pc (am_bd y) then am_code y pc else none) = some e from hc]
  rcases hi with ⟨j, e1⟩ | ⟨j, e1⟩ | ⟨j, e1⟩ <;> (simp only [e1]; exact g)
/-- a step that is no call, no return and no throw -/
theorem am_ev.step {e : am_E} {pc' : Nat} {ls' st' : List Value} {h' : am_H} (hc : am_at y pc e) (hs : am_st e pc ls st h = some (pc', ls', st', h')) (q : am_ev d y pc' ls' st' h' x) : am_ev d y pc ls st h x := by
  obtain ⟨n, q⟩ := q
  refine am_ev.one ⟨n, ?_⟩
  unfold am_one
  rw [show (bif Nat.blt y am_NM && Nat.blt pc (am_bd y) then am_code y pc else none) = some e from hc]
  dsimp only
  split
  · rename_i hi
    simp [am_st, hi] at hs
  · rename_i hi
    simp [am_st, hi] at hs
  · rename_i hi
    simp [am_st, hi] at hs
  · rename_i hi
    simp [am_st, hi] at hs
  · rename_i hi
    simp [am_st, hi] at hs
  · rename_i hi
    simp [am_st, hi] at hs
  · rename_i hi
    simp [am_st, hi] at hs
  · rename_i hi
    simp [am_st, hi] at hs
  · rw [hs]
    exact q
theorem am_ev.reti {e : am_E} {v : Int32} (hc : am_at y pc e) (he : e.1 = .ireturn) (hv : am_rok (am_rt y) v = true) : am_ev d y pc ls [.int v] h (some (.int v), h) := by
  refine am_ev.one ⟨0, ?_⟩
  unfold am_one
  rw [show (bif Nat.blt y am_NM && Nat.blt pc (am_bd y) then am_code y pc else none) = some e from hc]
  simp only [he, hv, cond_true]
theorem am_ev.retl {e : am_E} {v : Int64} (hc : am_at y pc e) (he : e.1 = .lreturn) : am_ev d y pc ls [.long v] h (some (.long v), h) := by
  refine am_ev.one ⟨0, ?_⟩
  unfold am_one
  rw [show (bif Nat.blt y am_NM && Nat.blt pc (am_bd y) then am_code y pc else none) = some e from hc]
  simp only [he]
theorem am_ev.reta {e : am_E} {a : Nat} (hc : am_at y pc e) (he : e.1 = .areturn) : am_ev d y pc ls [.ref a] h (some (.ref a), h) := by
  refine am_ev.one ⟨0, ?_⟩
  unfold am_one
  rw [show (bif Nat.blt y am_NM && Nat.blt pc (am_bd y) then am_code y pc else none) = some e from hc]
  simp only [he]
theorem am_ev.retn {e : am_E} (hc : am_at y pc e) (he : e.1 = .areturn) : am_ev d y pc ls [.null] h (some .null, h) := by
  refine am_ev.one ⟨0, ?_⟩
  unfold am_one
  rw [show (bif Nat.blt y am_NM && Nat.blt pc (am_bd y) then am_code y pc else none) = some e from hc]
  simp only [he]
theorem am_ev.retv {e : am_E} (hc : am_at y pc e) (he : e.1 = .return_) : am_ev d y pc ls [] h (none, h) := by
  refine am_ev.one ⟨0, ?_⟩
  unfold am_one
  rw [show (bif Nat.blt y am_NM && Nat.blt pc (am_bd y) then am_code y pc else none) = some e from hc]
  simp only [he]
/-- a throw with a handler at its place, and one without -/
theorem am_ev.thrC {e : am_E} {a hp : Nat} {rr : List Value} (hc : am_at y pc e) (he : e.1 = .athrow) (hy : 0 < y) (ha : am_isO h a 12 = true) (hh : am_ctc (am_hh y) pc = some hp) (q : am_ev d y hp ls [.ref a] h x) : am_ev d y pc ls (.ref a :: rr) h x := by
  obtain ⟨n, q⟩ := q
  refine am_ev.one ⟨n, ?_⟩
  have hb : Nat.blt 0 y = true := Nat.ble_eq_true_of_le hy
  unfold am_one
  rw [show (bif Nat.blt y am_NM && Nat.blt pc (am_bd y) then am_code y pc else none) = some e from hc]
  simp only [he, am_thr, ha, hb, hh, Bool.and_self, cond_true]
  exact q
theorem am_ev.thrT {e : am_E} {a : Nat} {rr : List Value} (hc : am_at y pc e) (he : e.1 = .athrow) (hy : 0 < y) (ha : am_isO h a 12 = true) (hh : am_ctc (am_hh y) pc = none) : am_ev d y pc ls (.ref a :: rr) h (some (.retAddr (a + 1)), h) := by
  refine am_ev.one ⟨0, ?_⟩
  have hb : Nat.blt 0 y = true := Nat.ble_eq_true_of_le hy
  unfold am_one
  rw [show (bif Nat.blt y am_NM && Nat.blt pc (am_bd y) then am_code y pc else none) = some e from hc]
  simp only [he, am_thr, ha, hb, hh, Bool.and_self, cond_true]
theorem am_ev.sp {e : am_E} (hc : am_at y pc e) (hi : am_isC e.1) (q : ∃ n, am_cal (am_run n) d y pc ls st h e = some x) : am_ev d y pc ls st h x := by
  obtain ⟨n, q⟩ := q
  refine am_ev.one ⟨n, ?_⟩
  unfold am_one
  rw [show (bif Nat.blt y am_NM && Nat.blt pc (am_bd y) then am_code y pc else none) = some e from hc]
  rcases hi with ⟨j, e1⟩ | ⟨j, e1⟩ | ⟨j, e1⟩ <;> (simp only [e1]; exact q)
theorem am_ev.obj {e : am_E} {k : Nat} {rr : List Value} (hc : am_at y pc e) (hi : am_isC e.1) (hz : e.2.2.2.1 = 1000) (hcs : am_cs rr ≤ 8) (q : am_ev (d + 1) y (pc + 3) ls rr h x) : am_ev (d + 1) y pc ls (.ref k :: rr) h x := by
  obtain ⟨n, q⟩ := q
  refine am_ev.sp hc hi ⟨n, ?_⟩
  have c3 : Nat.ble (am_cs rr) 8 = true := Nat.ble_eq_true_of_le hcs
  unfold am_cal am_cal0
  rw [hz]
  simp only [show Nat.beq 1000 1003 = false from rfl, show Nat.beq 1000 1004 = false from rfl, show Nat.beq 1000 1000 = true from rfl, Bool.or_self, cond_true, cond_false, c3]
  exact q
theorem am_ev.stop {e : am_E} {k : Nat} {rr : List Value} (hc : am_at y pc e) (hi : am_isC e.1) (hz : e.2.2.2.1 = 1002) (hcs : am_cs rr ≤ 8) (hk : am_isO h k 12 = true) (hd : 3 ≤ d) (q : am_ev (d + 1) y (pc + 3) ls rr (am_stop h k) x) : am_ev (d + 1) y pc ls (.ref k :: rr) h x := by
  obtain ⟨n, q⟩ := q
  refine am_ev.sp hc hi ⟨n, ?_⟩
  have c3 : Nat.ble (am_cs rr) 8 = true := Nat.ble_eq_true_of_le hcs
  have c4 : Nat.ble 3 d = true := Nat.ble_eq_true_of_le hd
  unfold am_cal am_cal0
  rw [hz]
  simp only [show Nat.beq 1002 1003 = false from rfl, show Nat.beq 1002 1004 = false from rfl, show Nat.beq 1002 1000 = false from rfl, show Nat.beq 1002 1001 = false from rfl, show Nat.beq 1002 1002 = true from rfl, Bool.or_self, Bool.and_self, cond_true, cond_false, c3, c4, hk]
  exact q
theorem am_ev.max {e : am_E} {a b : Int32} {rr : List Value} (hc : am_at y pc e) (hi : am_isC e.1) (hz : e.2.2.2.1 = 10) (hb : e.2.2.2.2.1 = 0) (hcs : am_cs rr ≤ 8) (q : am_ev (d + 1) y (pc + 3) ls (.int (if a < b then b else a) :: rr) h x) : am_ev (d + 1) y pc ls (.int b :: .int a :: rr) h x := by
  obtain ⟨n, q⟩ := q
  refine am_ev.sp hc hi ⟨n, ?_⟩
  have c3 : Nat.ble (am_cs rr) 8 = true := Nat.ble_eq_true_of_le hcs
  unfold am_cal am_cal0
  rw [hz, hb]
  simp only [show Nat.beq 10 1003 = false from rfl, show Nat.beq 10 1004 = false from rfl, show Nat.beq 10 1000 = false from rfl, show Nat.beq 10 1001 = false from rfl, show Nat.beq 10 1002 = false from rfl, show Nat.beq 10 10 = true from rfl, show Nat.beq 0 0 = true from rfl, Bool.or_self, Bool.and_self, cond_true, cond_false, c3]
  exact q
theorem am_ev.min {e : am_E} {a b : Int32} {rr : List Value} (hc : am_at y pc e) (hi : am_isC e.1) (hz : e.2.2.2.1 = 57) (hb : e.2.2.2.2.1 = 0) (hcs : am_cs rr ≤ 8) (q : am_ev (d + 1) y (pc + 3) ls (.int (if b < a then b else a) :: rr) h x) : am_ev (d + 1) y pc ls (.int b :: .int a :: rr) h x := by
  obtain ⟨n, q⟩ := q
  refine am_ev.sp hc hi ⟨n, ?_⟩
  have c3 : Nat.ble (am_cs rr) 8 = true := Nat.ble_eq_true_of_le hcs
  unfold am_cal am_cal0
  rw [hz, hb]
  simp only [show Nat.beq 57 1003 = false from rfl, show Nat.beq 57 1004 = false from rfl, show Nat.beq 57 1000 = false from rfl, show Nat.beq 57 1001 = false from rfl, show Nat.beq 57 1002 = false from rfl, show Nat.beq 57 10 = false from rfl, show Nat.beq 57 57 = true from rfl, show Nat.beq 0 0 = true from rfl, Bool.or_self, Bool.and_self, cond_true, cond_false, c3]
  exact q
theorem am_ev.copy {e : am_E} {n0 dp sp : Int32} {a b : Nat} {rr : List Value} {h2 : am_H} (hc : am_at y pc e) (hi : am_isC e.1) (hz : e.2.2.2.1 = 1001) (hcs : am_cs rr ≤ 8) (hcp : am_cp h a sp b dp n0 = some h2) (q : am_ev (d + 1) y (pc + 3) ls rr h2 x) : am_ev (d + 1) y pc ls (.int n0 :: .int dp :: .ref b :: .int sp :: .ref a :: rr) h x := by
  obtain ⟨n, q⟩ := q
  refine am_ev.sp hc hi ⟨n, ?_⟩
  have c3 : Nat.ble (am_cs rr) 8 = true := Nat.ble_eq_true_of_le hcs
  unfold am_cal am_cal0
  rw [hz]
  simp only [show Nat.beq 1001 1003 = false from rfl, show Nat.beq 1001 1004 = false from rfl, show Nat.beq 1001 1000 = false from rfl, show Nat.beq 1001 1001 = true from rfl, Bool.or_self, cond_true, cond_false, c3, hcp]
  exact q
theorem am_ev.len {e : am_E} {i : Nat} {rr : List Value} (hc : am_at y pc e) (hi : am_isC e.1) (hz : e.2.2.2.1 = 1003) (hk : i < 16) (hcs : am_cs rr ≤ 8) (hd : 2 ≤ d) (hM : am_sM e.1 (am_in y).1 1003 = true) (q : am_ev (d + 1) y (pc + 3) ls (.int (Int32.ofNat (am_slen i)) :: rr) h x) : am_ev (d + 1) y pc ls (.ref (7 + i) :: rr) h x := by
  obtain ⟨n, q⟩ := q
  refine am_ev.sp hc hi ⟨n, ?_⟩
  have c1 : Nat.ble 7 (7 + i) = true := Nat.ble_eq_true_of_le (by omega)
  have c2 : Nat.blt (7 + i) 23 = true := Nat.ble_eq_true_of_le (by omega)
  have c3 : Nat.ble (am_cs rr) 8 = true := Nat.ble_eq_true_of_le hcs
  have c4 : Nat.ble 2 d = true := Nat.ble_eq_true_of_le hd
  unfold am_cal am_cas
  rw [hz]
  simp only [show Nat.beq 1003 1003 = true from rfl, Bool.true_or, Bool.and_self, cond_true, c1, c2, c3, c4, hM, Nat.add_sub_cancel_left]
  exact q
theorem am_ev.chr {e : am_E} {i : Nat} {j : Int32} {rr : List Value} (hc : am_at y pc e) (hi : am_isC e.1) (hz : e.2.2.2.1 = 1004) (hk : i < 16) (hcs : am_cs rr ≤ 8) (hd : 4 ≤ d) (hM : am_sM e.1 (am_in y).1 1004 = true) (hj : 0 ≤ j) (hj1 : j.toNatClampNeg < am_slen i) (q : am_ev (d + 1) y (pc + 3) ls (.int (Int32.ofNat (am_sch i j.toNatClampNeg)) :: rr) h x) : am_ev (d + 1) y pc ls (.int j :: .ref (7 + i) :: rr) h x := by
  obtain ⟨n, q⟩ := q
  refine am_ev.sp hc hi ⟨n, ?_⟩
  have c1 : Nat.ble 7 (7 + i) = true := Nat.ble_eq_true_of_le (by omega)
  have c2 : Nat.blt (7 + i) 23 = true := Nat.ble_eq_true_of_le (by omega)
  have c3 : Nat.ble (am_cs rr) 8 = true := Nat.ble_eq_true_of_le hcs
  have c4 : Nat.ble 4 d = true := Nat.ble_eq_true_of_le hd
  have c5 : Nat.blt j.toNatClampNeg (am_slen i) = true := Nat.ble_eq_true_of_le hj1
  unfold am_cal am_cas
  rw [hz]
  simp only [show Nat.beq 1004 1003 = false from rfl, show Nat.beq 1004 1004 = true from rfl, Bool.or_true, Bool.and_self, cond_true, cond_false, c1, c2, c3, c4, c5, hM, Nat.add_sub_cancel_left, decide_eq_true hj]
  exact q
/-- a text -/
theorem am_ev.ldc {e : am_E} {idx i : Nat} (hc : am_at y pc e) (he : e.1 = .ldc idx) (hs : am_st e pc ls st h = none) (hr : am_sR (am_in y).1 idx = some i) (q : am_ev d y (pc + 2) ls (.ref (7 + i) :: st) h x) : am_ev d y pc ls st h x := by
  obtain ⟨n, q⟩ := q
  refine am_ev.one ⟨n, ?_⟩
  unfold am_one
  rw [show (bif Nat.blt y am_NM && Nat.blt pc (am_bd y) then am_code y pc else none) = some e from hc]
  simp only [he, hs, am_lds, hr]
  exact q
theorem am_ev.ldcw {e : am_E} {idx i : Nat} (hc : am_at y pc e) (he : e.1 = .ldc_w idx) (hs : am_st e pc ls st h = none) (hr : am_sR (am_in y).1 idx = some i) (q : am_ev d y (pc + 3) ls (.ref (7 + i) :: st) h x) : am_ev d y pc ls st h x := by
  obtain ⟨n, q⟩ := q
  refine am_ev.one ⟨n, ?_⟩
  unfold am_one
  rw [show (bif Nat.blt y am_NM && Nat.blt pc (am_bd y) then am_code y pc else none) = some e from hc]
  simp only [he, hs, am_lds, hr]
  exact q
end AMW
/-- the law's walk out of a run of the plain machine -/
theorem am_lawE {p : Program} {e : Env} {s : State} {m : MethodId} {below : List Frame} {meth : Method} {c : Code} (l : Launch) {b L : Nat} {xs : Nat → Int32} (C0 : lw_At p s m meth c b L xs) (q : ∃ h' : am_H, am_ev 1300 0 0 (am_ent [.ref 0] 4) [] (am_h0 L xs) (some (.int 1), h') ∧ h'.1 ≤ 601064 ∧ h'.2.1 ≤ 7293034) : W p l e room_1 s m #[Value.ref b] below meth c s.heap [] 0 0 (lw_Z below #[Value.ref b] s) (entryFrame m ([Value.ref b] : List Value).toArray 4) := by
  obtain ⟨h', ⟨n, q⟩, h1, h2⟩ := q
  exact am_law l C0 (n := n) (d := 1300) (h' := h') (Nat.le_refl _) q h1 h2
/-- a method's contract: from arguments and a heap that meet P it comes, at any depth of at least D, to an answer and a heap that meet Q -/
def am_Ct (D y : Nat) (P : List Value → am_H → Prop) (Q : List Value → am_H → Option Value → am_H → Prop) : Prop :=
  ∀ d as h, D ≤ d → P as h → ∃ r h', am_ev d y 0 (am_ent as (am_in y).2.2.1) [] h (r, h') ∧ Q as h r h'
theorem am_Ct.weak {D D' y : Nat} {P P' : List Value → am_H → Prop} {Q Q' : List Value → am_H → Option Value → am_H → Prop} (k : am_Ct D y P Q) (hD : D ≤ D') (hP : ∀ as h, P' as h → P as h) (hQ : ∀ as h r h', P' as h → Q as h r h' → Q' as h r h') : am_Ct D' y P' Q' := fun d as h hd hp => by
  obtain ⟨r, h', q1, q2⟩ := k d as h (Nat.le_trans hD hd) (hP as h hp)
  exact ⟨r, h', q1, hQ as h r h' hp q2⟩
/-- a loop: a place where an invariant holds and a measure goes down comes to its end -/
theorem am_loop {d y pc : Nat} {I : List Value → List Value → am_H → Prop} {G : Option Value × am_H → Prop} (μ : List Value → List Value → am_H → Nat)
    (step : ∀ ls st h, I ls st h → (∀ ls' st' h', I ls' st' h' → μ ls' st' h' < μ ls st h → ∃ x, am_ev d y pc ls' st' h' x ∧ G x) → ∃ x, am_ev d y pc ls st h x ∧ G x) : ∀ ls st h, I ls st h → ∃ x, am_ev d y pc ls st h x ∧ G x := by
  have key : ∀ n ls st h, μ ls st h < n → I ls st h → ∃ x, am_ev d y pc ls st h x ∧ G x := by
    intro n
    induction n with
    | zero => intro ls st h hn; exact absurd hn (Nat.not_lt_zero _)
    | succ n ih =>
      intro ls st h hn hI
      exact step ls st h hI (fun ls' st' h' hI' hlt => ih ls' st' h' (by omega) hI')
  exact fun ls st h hI => key _ ls st h (Nat.lt_succ_self _) hI
end
section
/-! SMALL METHODS: their contracts (the first, as a pattern) -/
theorem am_ct237 : am_Ct 1 237 (fun as h => ∃ k v, as = [.ref k] ∧ am_isO h k 13 = true ∧ h.2.2.2 k 54 = .int v) (fun as h r h' => h' = h ∧ ∃ k, as = [.ref k] ∧ r = some (h.2.2.2 k 54)) := by
  rintro d as h hd ⟨k, v, rfl, hk, hv⟩
  refine ⟨some (.int v), h, ?_, rfl, k, rfl, by rw [hv]⟩
  refine am_ev.step (e := am_s (.aload_n 0) 1) (pc' := 1) (ls' := am_ent [.ref k] 1) (st' := [.ref k]) (h' := h) rfl rfl ?_
  refine am_ev.step (e := (.getfield 433, 3, 0, 13, 54, 1432)) (pc' := 4) (ls' := am_ent [.ref k] 1) (st' := [.int v]) (h' := h) rfl (by simp [am_st, hk, hv]) ?_
  exact am_ev.reti (e := am_s .ireturn 1) rfl rfl rfl
/-- Tape.isBlank: the pattern for branches; places and stacks are found by rfl -/
theorem am_ct22 : am_Ct 1 22 (fun as _ => ∃ c : Int32, as = [.int c]) (fun as h r h' => h' = h ∧ ∃ c : Int32, as = [.int c] ∧ r = some (.int (if c = 32 ∨ c = 10 then 1 else 0))) := by
  rintro d as h hd ⟨c, rfl⟩
  refine ⟨_, h, ?_, rfl, c, rfl, rfl⟩
  refine am_ev.step rfl rfl ?_
  refine am_ev.step rfl rfl ?_
  by_cases h1 : c = 32
  · rw [if_pos (Or.inl h1)]
    refine am_ev.step (pc' := 12) (ls' := am_ent [.int c] 1) (st' := []) (h' := h) rfl (if_pos h1) ?_
    refine am_ev.step rfl rfl ?_
    refine am_ev.step rfl rfl ?_
    exact am_ev.reti rfl rfl rfl
  · refine am_ev.step (pc' := 6) (ls' := am_ent [.int c] 1) (st' := []) (h' := h) rfl (if_neg h1) ?_
    refine am_ev.step rfl rfl ?_
    refine am_ev.step rfl rfl ?_
    by_cases h2 : c = 10
    · rw [if_pos (Or.inr h2)]
      refine am_ev.step (pc' := 12) (ls' := am_ent [.int c] 1) (st' := []) (h' := h) rfl (if_pos h2) ?_
      refine am_ev.step rfl rfl ?_
      refine am_ev.step rfl rfl ?_
      exact am_ev.reti rfl rfl rfl
    · rw [if_neg (fun q => q.elim h1 h2)]
      refine am_ev.step (pc' := 16) (ls' := am_ent [.int c] 1) (st' := []) (h' := h) rfl (if_neg h2) ?_
      refine am_ev.step rfl rfl ?_
      exact am_ev.reti rfl rfl rfl
end
section
/-! THE CHECKER, 1: linear forms over symbols, bounds, what follows from them -/
abbrev cq_F : Type := Int × List (Nat × Int)
def cq_eT (ρ : Nat → Int) : List (Nat × Int) → Int
  | [] => 0
  | t :: r => t.2 * ρ t.1 + cq_eT ρ r
def cq_e (ρ : Nat → Int) (f : cq_F) : Int := f.1 + cq_eT ρ f.2
def cq_z (a : Int) : Bool := match a with
  | .ofNat n => Nat.beq n 0
  | .negSucc _ => false
def cq_p (a : Int) : Bool := match a with
  | .ofNat _ => true
  | .negSucc _ => false
theorem cq_z_eq {a : Int} (h : cq_z a = true) : a = 0 := by
  cases a with
  | ofNat n => rw [am_beq h]; rfl
  | negSucc n => cases h
theorem cq_p_le {a : Int} (h : cq_p a = true) : 0 ≤ a := by
  cases a with
  | ofNat n => exact Int.natCast_nonneg n
  | negSucc n => cases h
theorem cq_p_of {a : Int} (h : 0 ≤ a) : cq_p a = true := by
  cases a with
  | ofNat n => rfl
  | negSucc n => exact absurd h (by omega)
def cq_ins (s : Nat) (k : Int) : List (Nat × Int) → List (Nat × Int)
  | [] => [(s, k)]
  | t :: r => bif Nat.beq t.1 s then (bif cq_z (t.2 + k) then r else (t.1, t.2 + k) :: r) else bif Nat.blt s t.1 then (s, k) :: t :: r else t :: cq_ins s k r
theorem cq_ins_e (ρ : Nat → Int) (s : Nat) (k : Int) : ∀ l, cq_eT ρ (cq_ins s k l) = k * ρ s + cq_eT ρ l
  | [] => by simp [cq_ins, cq_eT]
  | t :: r => by
    unfold cq_ins
    cases h1 : Nat.beq t.1 s with
    | true =>
      have e1 := am_beq h1
      cases h2 : cq_z (t.2 + k) with
      | true =>
        have e2 := cq_z_eq h2
        simp only [cond_true, cq_eT]
        have e3 : k = - t.2 := by omega
        rw [e3, ← e1, Int.neg_mul]
        omega
      | false =>
        simp only [cond_true, cond_false, cq_eT]
        rw [← e1, Int.add_mul]
        omega
    | false =>
      simp only [cond_false]
      cases h2 : Nat.blt s t.1 with
      | true => simp only [cond_true, cq_eT]
      | false =>
        simp only [cond_false, cq_eT]
        rw [cq_ins_e ρ s k r]
        omega
def cq_addT : List (Nat × Int) → List (Nat × Int) → List (Nat × Int)
  | [], l => l
  | t :: r, l => cq_addT r (cq_ins t.1 t.2 l)
theorem cq_addT_e (ρ : Nat → Int) : ∀ l m, cq_eT ρ (cq_addT l m) = cq_eT ρ l + cq_eT ρ m
  | [], m => by simp [cq_addT, cq_eT]
  | t :: r, m => by
    simp only [cq_addT, cq_eT]
    rw [cq_addT_e ρ r, cq_ins_e]
    omega
def cq_scT (k : Int) : List (Nat × Int) → List (Nat × Int)
  | [] => []
  | t :: r => (t.1, k * t.2) :: cq_scT k r
theorem cq_scT_e (ρ : Nat → Int) (k : Int) : ∀ l, cq_eT ρ (cq_scT k l) = k * cq_eT ρ l
  | [] => by simp [cq_scT, cq_eT]
  | t :: r => by
    simp only [cq_scT, cq_eT]
    rw [cq_scT_e ρ k r, Int.mul_add, Int.mul_assoc]
def cq_c (c : Int) : cq_F := (c, [])
def cq_s (s : Nat) : cq_F := (0, [(s, 1)])
def cq_add (f g : cq_F) : cq_F := (f.1 + g.1, cq_addT g.2 f.2)
def cq_sc (k : Int) (f : cq_F) : cq_F := bif cq_z k then (0, []) else (k * f.1, cq_scT k f.2)
def cq_sub (f g : cq_F) : cq_F := cq_add f (cq_sc (-1) g)
def cq_ac (f : cq_F) (c : Int) : cq_F := (f.1 + c, f.2)
theorem cq_c_e (ρ : Nat → Int) (c : Int) : cq_e ρ (cq_c c) = c := by simp [cq_e, cq_c, cq_eT]
theorem cq_s_e (ρ : Nat → Int) (s : Nat) : cq_e ρ (cq_s s) = ρ s := by simp [cq_e, cq_s, cq_eT]
theorem cq_add_e (ρ : Nat → Int) (f g : cq_F) : cq_e ρ (cq_add f g) = cq_e ρ f + cq_e ρ g := by
  simp only [cq_e, cq_add, cq_addT_e]
  omega
theorem cq_sc_e (ρ : Nat → Int) (k : Int) (f : cq_F) : cq_e ρ (cq_sc k f) = k * cq_e ρ f := by
  unfold cq_sc
  cases h : cq_z k with
  | true =>
    rw [cq_z_eq h]
    simp [cq_e, cq_eT]
  | false =>
    simp only [cond_false, cq_e, cq_scT_e, Int.mul_add]
theorem cq_sub_e (ρ : Nat → Int) (f g : cq_F) : cq_e ρ (cq_sub f g) = cq_e ρ f - cq_e ρ g := by
  simp only [cq_sub, cq_add_e, cq_sc_e]
  omega
theorem cq_ac_e (ρ : Nat → Int) (f : cq_F) (c : Int) : cq_e ρ (cq_ac f c) = cq_e ρ f + c := by
  simp only [cq_e, cq_ac]
  omega
/-- a form without symbols -/
def cq_k (f : cq_F) : Bool := match f.2 with
  | [] => true
  | _ => false
theorem cq_k_e {f : cq_F} (h : cq_k f = true) (ρ : Nat → Int) : cq_e ρ f = f.1 := by
  obtain ⟨c, l⟩ := f
  cases l with
  | nil => simp [cq_e, cq_eT]
  | cons t r => cases h
/-- bounds: the newest first; every one of them holds -/
abbrev cq_B : Type := List (Nat × Int × Int)
def cq_bOk (ρ : Nat → Int) (B : cq_B) : Prop := ∀ b ∈ B, b.2.1 ≤ ρ b.1 ∧ ρ b.1 ≤ b.2.2
def cq_bd (s : Nat) : cq_B → Option (Int × Int)
  | [] => none
  | b :: r => bif Nat.beq b.1 s then some b.2 else cq_bd s r
theorem cq_bd_ok {ρ : Nat → Int} {s : Nat} {b : Int × Int} : ∀ {B : cq_B}, cq_bOk ρ B → cq_bd s B = some b → b.1 ≤ ρ s ∧ ρ s ≤ b.2
  | [], _, h => by cases h
  | a :: r, hB, h => by
    unfold cq_bd at h
    cases h1 : Nat.beq a.1 s with
    | true =>
      rw [h1] at h
      have e := Option.some.inj h
      have := hB a (List.mem_cons_self)
      rw [am_beq h1] at this
      rw [← e]
      exact this
    | false =>
      rw [h1] at h
      exact cq_bd_ok (fun b hb => hB b (List.mem_cons_of_mem _ hb)) h
/-- the least that a form can be -/
def cq_loT (B : cq_B) : List (Nat × Int) → Int → Option Int
  | [], c => some c
  | t :: r, c => match cq_bd t.1 B with
    | none => none
    | some b => cq_loT B r (c + t.2 * (bif cq_p t.2 then b.1 else b.2))
def cq_lo (B : cq_B) (f : cq_F) : Option Int := cq_loT B f.2 f.1
theorem cq_loT_ok {ρ : Nat → Int} {B : cq_B} (hB : cq_bOk ρ B) : ∀ {l : List (Nat × Int)} {c m : Int}, cq_loT B l c = some m → m ≤ c + cq_eT ρ l
  | [], c, m, h => by
    simp only [cq_loT] at h
    have := Option.some.inj h
    simp only [cq_eT]
    omega
  | t :: r, c, m, h => by
    unfold cq_loT at h
    cases hb : cq_bd t.1 B with
    | none => rw [hb] at h; cases h
    | some b =>
      rw [hb] at h
      have hk := cq_loT_ok hB h
      have hbb := cq_bd_ok hB hb
      simp only [cq_eT]
      cases hp : cq_p t.2 with
      | true =>
        rw [hp] at hk
        simp only [cond_true] at hk
        have := Int.mul_le_mul_of_nonneg_left hbb.1 (cq_p_le hp)
        omega
      | false =>
        rw [hp] at hk
        simp only [cond_false] at hk
        have hn : t.2 ≤ 0 := by
          rcases Int.le_total t.2 0 with q | q
          · exact q
          · rw [cq_p_of q] at hp; cases hp
        have := Int.mul_le_mul_of_nonpos_left hn hbb.2
        omega
theorem cq_lo_ok {ρ : Nat → Int} {B : cq_B} (hB : cq_bOk ρ B) {f : cq_F} {m : Int} (h : cq_lo B f = some m) : m ≤ cq_e ρ f := cq_loT_ok hB h
/-- f is at least 0, by bounds alone -/
def cq_nn (B : cq_B) (f : cq_F) : Bool := match cq_lo B f with
  | none => false
  | some m => cq_p m
theorem cq_nn_ok {ρ : Nat → Int} {B : cq_B} (hB : cq_bOk ρ B) {f : cq_F} (h : cq_nn B f = true) : 0 ≤ cq_e ρ f := by
  unfold cq_nn at h
  cases hl : cq_lo B f with
  | none => rw [hl] at h; cases h
  | some m =>
    rw [hl] at h
    have := cq_lo_ok hB hl
    have := cq_p_le h
    omega
def cq_gOk (ρ : Nat → Int) (Gm : List cq_F) : Prop := ∀ g ∈ Gm, 0 ≤ cq_e ρ g
def cq_ieq (a b : Int) : Bool := cq_z (a - b)
/-- do the two share a term -/
def cq_cf (s : Nat) : List (Nat × Int) → Int
  | [] => 0
  | t :: r => bif Nat.beq t.1 s then t.2 else cq_cf s r
def cq_sh (f : List (Nat × Int)) : List (Nat × Int) → Bool
  | [] => false
  | t :: r => cq_ieq (cq_cf t.1 f) t.2 || cq_sh f r
/-- f is at least 0, by bounds and facts -/
def cq_ent (B : cq_B) (Gm : List cq_F) : Nat → cq_F → Bool
  | 0, f => cq_nn B f
  | d + 1, f => cq_nn B f || Gm.any (fun g => cq_sh f.2 g.2 && cq_ent B Gm d (cq_sub f g))
theorem cq_ent_ok {ρ : Nat → Int} {B : cq_B} {Gm : List cq_F} (hB : cq_bOk ρ B) (hG : cq_gOk ρ Gm) : ∀ {d : Nat} {f : cq_F}, cq_ent B Gm d f = true → 0 ≤ cq_e ρ f
  | 0, f, h => cq_nn_ok hB h
  | d + 1, f, h => by
    unfold cq_ent at h
    rcases Bool.or_eq_true _ _ ▸ h with q | q
    · exact cq_nn_ok hB q
    · obtain ⟨g, hg, q2⟩ := List.any_eq_true.1 q
      have q3 := cq_ent_ok hB hG (Bool.and_eq_true _ _ ▸ q2).2
      have := hG g hg
      rw [cq_sub_e] at q3
      omega
end
section
/-! THE CHECKER, 2: a new fact and what it does to the bounds -/
def cq_neg (f : cq_F) : cq_F := cq_sc (-1) f
theorem cq_neg_e (ρ : Nat → Int) (f : cq_F) : cq_e ρ (cq_neg f) = - cq_e ρ f := by
  rw [cq_neg, cq_sc_e]
  omega
def cq_st1 (B : cq_B) (g : cq_F) (t : Nat × Int) : Option cq_B := match cq_bd t.1 B with
  | none => some B
  | some b => (match cq_lo B (cq_neg (cq_add g (0, [(t.1, - t.2)]))) with
    | none => some B
    | some m => bif cq_z t.2 then some B else bif cq_p t.2 then
        (bif cq_p (b.1 + ((- m) / t.2)) then some B else bif cq_p (b.2 + ((- m) / t.2)) then some ((t.1, - ((- m) / t.2), b.2) :: B) else none)
      else
        (bif cq_p ((- m) / (- t.2) - b.2) then some B else bif cq_p ((- m) / (- t.2) - b.1) then some ((t.1, b.1, (- m) / (- t.2)) :: B) else none))
theorem cq_bOk.cons {ρ : Nat → Int} {B : cq_B} (hB : cq_bOk ρ B) {s : Nat} {l u : Int} (h1 : l ≤ ρ s) (h2 : ρ s ≤ u) : cq_bOk ρ ((s, l, u) :: B) := fun b hb => by
  rcases List.mem_cons.1 hb with q | q
  · rw [q]; exact ⟨h1, h2⟩
  · exact hB b q
theorem cq_np {a : Int} (h : cq_p a = false) : a < 0 := by
  rcases (show a < 0 ∨ 0 ≤ a by omega) with q | q
  · exact q
  · rw [cq_p_of q] at h; cases h
theorem cq_st1_ok {ρ : Nat → Int} {B : cq_B} (hB : cq_bOk ρ B) {g : cq_F} (hg : 0 ≤ cq_e ρ g) (t : Nat × Int) : ∃ B', cq_st1 B g t = some B' ∧ cq_bOk ρ B' := by
  unfold cq_st1
  cases hb : cq_bd t.1 B with
  | none => exact ⟨B, rfl, hB⟩
  | some b =>
    have hbb := cq_bd_ok hB hb
    cases hl : cq_lo B (cq_neg (cq_add g (0, [(t.1, - t.2)]))) with
    | none => exact ⟨B, rfl, hB⟩
    | some m =>
      have hm := cq_lo_ok hB hl
      rw [cq_neg_e, cq_add_e] at hm
      have e1 : cq_e ρ ((0, [(t.1, - t.2)]) : cq_F) = - (t.2 * ρ t.1) := by
        simp only [cq_e, cq_eT, Int.neg_mul]
        omega
      rw [e1] at hm
      dsimp only
      cases hz : cq_z t.2 with
      | true => exact ⟨B, rfl, hB⟩
      | false =>
        have ht : t.2 ≠ 0 := fun q => by rw [q] at hz; cases hz
        simp only [cond_false]
        have hk : - (- m) ≤ t.2 * ρ t.1 := by omega
        generalize - m = w at hk ⊢
        cases hp : cq_p t.2 with
        | true =>
          have hpos : 0 < t.2 := by have := cq_p_le hp; omega
          simp only [cond_true]
          have key : - (w / t.2) ≤ ρ t.1 := by
            rcases (show ρ t.1 < - (w / t.2) ∨ - (w / t.2) ≤ ρ t.1 by omega) with q | q
            · have a1 := Int.lt_ediv_add_one_mul_self w hpos
              have a2 : ρ t.1 ≤ - (w / t.2 + 1) := by omega
              have a3 := Int.mul_le_mul_of_nonneg_left a2 (Int.le_of_lt hpos)
              rw [Int.mul_neg, Int.mul_comm t.2 (w / t.2 + 1)] at a3
              omega
            · exact q
          cases h1 : cq_p (b.1 + w / t.2) with
          | true => exact ⟨B, rfl, hB⟩
          | false =>
            cases h2 : cq_p (b.2 + w / t.2) with
            | true => exact ⟨_, rfl, hB.cons key hbb.2⟩
            | false => have := cq_np h2; omega
        | false =>
          have hneg : 0 < - t.2 := by have := cq_np hp; omega
          simp only [cond_false]
          have key : ρ t.1 ≤ w / (- t.2) := by
            rcases (show w / (- t.2) < ρ t.1 ∨ ρ t.1 ≤ w / (- t.2) by omega) with q | q
            · have a1 := Int.lt_ediv_add_one_mul_self w hneg
              have a2 : w / (- t.2) + 1 ≤ ρ t.1 := by omega
              have a3 := Int.mul_le_mul_of_nonneg_left a2 (Int.le_of_lt hneg)
              rw [Int.mul_comm (- t.2) (w / (- t.2) + 1), Int.neg_mul t.2 (ρ t.1)] at a3
              omega
            · exact q
          cases h1 : cq_p (w / (- t.2) - b.2) with
          | true => exact ⟨B, rfl, hB⟩
          | false =>
            cases h2 : cq_p (w / (- t.2) - b.1) with
            | true => exact ⟨_, rfl, hB.cons hbb.1 key⟩
            | false => have := cq_np h2; omega
def cq_prT (g : cq_F) : List (Nat × Int) → cq_B → Option cq_B
  | [], B => some B
  | t :: r, B => match cq_st1 B g t with
    | none => none
    | some B' => cq_prT g r B'
theorem cq_prT_ok {ρ : Nat → Int} {g : cq_F} (hg : 0 ≤ cq_e ρ g) : ∀ (l : List (Nat × Int)) {B : cq_B}, cq_bOk ρ B → ∃ B', cq_prT g l B = some B' ∧ cq_bOk ρ B'
  | [], B, hB => ⟨B, rfl, hB⟩
  | t :: r, B, hB => by
    obtain ⟨B1, e1, h1⟩ := cq_st1_ok hB hg t
    obtain ⟨B2, e2, h2⟩ := cq_prT_ok hg r h1
    exact ⟨B2, by simp only [cq_prT, e1]; exact e2, h2⟩
def cq_prG : List cq_F → cq_B → Option cq_B
  | [], B => some B
  | g :: r, B => match cq_prT g g.2 B with
    | none => none
    | some B' => cq_prG r B'
theorem cq_prG_ok {ρ : Nat → Int} : ∀ (l : List cq_F), cq_gOk ρ l → ∀ {B : cq_B}, cq_bOk ρ B → ∃ B', cq_prG l B = some B' ∧ cq_bOk ρ B'
  | [], _, B, hB => ⟨B, rfl, hB⟩
  | g :: r, hG, B, hB => by
    obtain ⟨B1, e1, h1⟩ := cq_prT_ok (hG g List.mem_cons_self) g.2 hB
    obtain ⟨B2, e2, h2⟩ := cq_prG_ok r (fun q hq => hG q (List.mem_cons_of_mem _ hq)) h1
    exact ⟨B2, by simp only [cq_prG, e1]; exact e2, h2⟩
abbrev cq_P : Type := cq_B × List cq_F
def cq_pOk (ρ : Nat → Int) (P : cq_P) : Prop := cq_bOk ρ P.1 ∧ cq_gOk ρ P.2
def cq_one (f : cq_F) : Bool := match f.2 with
  | _ :: _ :: _ => false
  | _ => true
/-- a fact is taken up; none: it can't be -/
def cq_asm (P : cq_P) (g : cq_F) : Option cq_P :=
  bif cq_k g then (bif cq_p g.1 then some P else none)
  else bif cq_nn P.1 (cq_ac (cq_neg g) (-1)) then none
  else bif cq_nn P.1 g then some P
  else bif P.2.any (fun q => cq_nn P.1 (cq_ac (cq_neg (cq_add g q)) (-1))) then none
  else (match cq_prT g g.2 P.1 with
    | none => none
    | some B => (match cq_prG P.2 B with
      | none => none
      | some B' => some (B', bif cq_one g then P.2 else g :: P.2)))
theorem cq_asm_ok {ρ : Nat → Int} {P : cq_P} (hP : cq_pOk ρ P) {g : cq_F} (hg : 0 ≤ cq_e ρ g) : ∃ P', cq_asm P g = some P' ∧ cq_pOk ρ P' := by
  unfold cq_asm
  cases h1 : cq_k g with
  | true =>
    have e := cq_k_e h1 ρ
    simp only [cond_true]
    rw [cq_p_of (by omega)]
    exact ⟨P, rfl, hP⟩
  | false =>
    simp only [cond_false]
    cases h2 : cq_nn P.1 (cq_ac (cq_neg g) (-1)) with
    | true =>
      have := cq_nn_ok hP.1 h2
      rw [cq_ac_e, cq_neg_e] at this
      omega
    | false =>
      simp only [cond_false]
      cases h3 : cq_nn P.1 g with
      | true => exact ⟨P, rfl, hP⟩
      | false =>
        simp only [cond_false]
        cases h4 : P.2.any (fun q => cq_nn P.1 (cq_ac (cq_neg (cq_add g q)) (-1))) with
        | true =>
          obtain ⟨q, hq, h5⟩ := List.any_eq_true.1 h4
          have := cq_nn_ok hP.1 h5
          have := hP.2 q hq
          rw [cq_ac_e, cq_neg_e, cq_add_e] at *
          omega
        | false =>
          simp only [cond_false]
          obtain ⟨B1, e1, b1⟩ := cq_prT_ok hg g.2 hP.1
          obtain ⟨B2, e2, b2⟩ := cq_prG_ok P.2 hP.2 b1
          simp only [e1, e2]
          refine ⟨_, rfl, b2, ?_⟩
          cases cq_one g with
          | true => exact hP.2
          | false =>
            intro q hq
            rcases List.mem_cons.1 hq with r | r
            · rw [r]; exact hg
            · exact hP.2 q r
/-- how deep the search for a fact goes -/
def cq_dp : Nat := 5
def cq_en (P : cq_P) (f : cq_F) : Bool := cq_ent P.1 P.2 cq_dp f
theorem cq_en_ok {ρ : Nat → Int} {P : cq_P} (hP : cq_pOk ρ P) {f : cq_F} (h : cq_en P f = true) : 0 ≤ cq_e ρ f := cq_ent_ok hP.1 hP.2 h
def cq_aeq (P : cq_P) (f : cq_F) : Option cq_P := match cq_asm P f with
  | none => none
  | some P' => cq_asm P' (cq_neg f)
theorem cq_aeq_ok {ρ : Nat → Int} {P : cq_P} (hP : cq_pOk ρ P) {f : cq_F} (hf : cq_e ρ f = 0) : ∃ P', cq_aeq P f = some P' ∧ cq_pOk ρ P' := by
  obtain ⟨P1, e1, h1⟩ := cq_asm_ok hP (g := f) (by omega)
  obtain ⟨P2, e2, h2⟩ := cq_asm_ok h1 (g := cq_neg f) (by rw [cq_neg_e]; omega)
  exact ⟨P2, by simp only [cq_aeq, e1]; exact e2, h2⟩
def cq_ane (P : cq_P) (f : cq_F) : Option cq_P :=
  bif cq_k f then (bif cq_z f.1 then none else some P)
  else bif cq_en P f then cq_asm P (cq_ac f (-1)) else bif cq_en P (cq_neg f) then cq_asm P (cq_ac (cq_neg f) (-1)) else some P
theorem cq_ane_ok {ρ : Nat → Int} {P : cq_P} (hP : cq_pOk ρ P) {f : cq_F} (hf : cq_e ρ f ≠ 0) : ∃ P', cq_ane P f = some P' ∧ cq_pOk ρ P' := by
  unfold cq_ane
  cases h1 : cq_k f with
  | true =>
    have e := cq_k_e h1 ρ
    simp only [cond_true]
    cases h2 : cq_z f.1 with
    | true => have := cq_z_eq h2; omega
    | false => exact ⟨P, rfl, hP⟩
  | false =>
    simp only [cond_false]
    cases h2 : cq_en P f with
    | true =>
      have := cq_en_ok hP h2
      exact cq_asm_ok hP (by rw [cq_ac_e]; omega)
    | false =>
      simp only [cond_false]
      cases h3 : cq_en P (cq_neg f) with
      | true =>
        have := cq_en_ok hP h3
        exact cq_asm_ok hP (by rw [cq_ac_e]; rw [cq_neg_e] at *; omega)
      | false => exact ⟨P, rfl, hP⟩
/-- least and greatest, as far as they are known to lie in a range -/
def cq_in (P : cq_P) (f : cq_F) (l u : Int) : Bool := cq_nn P.1 (cq_ac f (- l)) && cq_nn P.1 (cq_ac (cq_neg f) u)
theorem cq_in_ok {ρ : Nat → Int} {P : cq_P} (hP : cq_pOk ρ P) {f : cq_F} {l u : Int} (h : cq_in P f l u = true) : l ≤ cq_e ρ f ∧ cq_e ρ f ≤ u := by
  have h1 := cq_nn_ok hP.1 (Bool.and_eq_true _ _ ▸ h).1
  have h2 := cq_nn_ok hP.1 (Bool.and_eq_true _ _ ▸ h).2
  rw [cq_ac_e] at h1 h2
  rw [cq_neg_e] at h2
  omega
def cq_inE (P : cq_P) (f : cq_F) (l u : Int) : Bool := cq_en P (cq_ac f (- l)) && cq_en P (cq_ac (cq_neg f) u)
theorem cq_inE_ok {ρ : Nat → Int} {P : cq_P} (hP : cq_pOk ρ P) {f : cq_F} {l u : Int} (h : cq_inE P f l u = true) : l ≤ cq_e ρ f ∧ cq_e ρ f ≤ u := by
  have h1 := cq_en_ok hP (Bool.and_eq_true _ _ ▸ h).1
  have h2 := cq_en_ok hP (Bool.and_eq_true _ _ ▸ h).2
  rw [cq_ac_e] at h1 h2
  rw [cq_neg_e] at h2
  omega
end
section
/-! THE CHECKER, 3: abstract values, types of places, what a store says of a heap -/
/-- 0 anything, 1 an int, 2 a long, 3 a comparison's sign, 4 null, 5 a known cell, 6 a symbol's cell or null -/
abbrev cq_A : Type := Nat × cq_F × Nat
def cq_u : cq_A := (0, (0, []), 0)
def cq_i (f : cq_F) : cq_A := (1, f, 0)
def cq_l (f : cq_F) : cq_A := (2, f, 0)
def cq_v (f : cq_F) : cq_A := (3, f, 0)
def cq_nu : cq_A := (4, (0, []), 0)
def cq_rc (k : Nat) : cq_A := (5, (0, []), k)
def cq_rs (s : Nat) : cq_A := (6, (0, []), s)
/-- what an abstract value says of a value -/
def cq_g (ρ : Nat → Int) (a : cq_A) (v : Value) : Prop := match a with
  | (0, _, _) => True
  | (1, f, _) => ∃ x : Int32, v = .int x ∧ x.toInt = cq_e ρ f
  | (2, f, _) => ∃ x : Int64, v = .long x ∧ x.toInt = cq_e ρ f
  | (3, f, _) => ∃ x : Int32, v = .int x ∧ (x.toInt < 0 ↔ cq_e ρ f < 0) ∧ (x.toInt = 0 ↔ cq_e ρ f = 0)
  | (4, _, _) => v = .null
  | (5, _, k) => v = .ref k
  | (6, _, s) => (ρ s < 0 ∧ v = .null) ∨ (0 ≤ ρ s ∧ v = .ref (ρ s).toNat)
  | _ => False
def cq_gs (ρ : Nat → Int) : List cq_A → List Value → Prop
  | [], [] => True
  | a :: as, v :: vs => cq_g ρ a v ∧ cq_gs ρ as vs
  | _, _ => False
/-- types of places: 0 none, 1 an int within, 2 a long, 3 a known cell, 4 an object, 5 one or null, 6 an array, 7 one of two cells, 8 an int up to so many times the count, 9 an int below the count or 0, 10 an int up to a bound less the place, 11 an object, or null from the count on -/
abbrev cq_T : Type := Nat × Int × Int × Nat × Nat × Nat
/-- the number that stands at a place -/
def cq_n (h : am_H) (c j : Nat) : Int := match h.2.2.2 c j with
  | .int x => x.toInt
  | _ => 0
/-- kinds of cells that calls make: objects (0, number), arrays (1, code, length + 1 or 0), texts (2) -/
abbrev cq_Kd : Type := Nat × Nat × Nat
def cq_kOk (h : am_H) (a : Nat) (k : cq_Kd) : Prop := match k with
  | (0, ci, _) => 130 ≤ a ∧ a < h.1 ∧ h.2.2.1 a = (0, ci, am_N ci)
  | (1, tc, ln) => 130 ≤ a ∧ a < h.1 ∧ (h.2.2.1 a).1 = 1 ∧ (h.2.2.1 a).2.1 = tc ∧ (ln = 0 ∨ (h.2.2.1 a).2.2 + 1 = ln)
  | _ => 7 ≤ a ∧ a < 23
def cq_ht (h : am_H) (j : Nat) (t : cq_T) (v : Value) : Prop := match t with
  | (0, _) => True
  | (1, l, u, _) => ∃ x : Int32, v = .int x ∧ l ≤ x.toInt ∧ x.toInt ≤ u
  | (2, _) => ∃ x : Int64, v = .long x
  | (3, _, _, k, _) => v = .ref k
  | (4, _, _, k, _) => ∃ a, v = .ref a ∧ cq_kOk h a (0, k, 0)
  | (5, _, _, k, _) => v = .null ∨ ∃ a, v = .ref a ∧ cq_kOk h a (0, k, 0)
  | (6, _, _, tc, ln, _) => ∃ a, v = .ref a ∧ cq_kOk h a (1, tc, ln)
  | (7, _, _, k, k', _) => v = .ref k ∨ v = .ref k'
  | (8, l, u, k, _) => ∃ x : Int32, v = .int x ∧ l ≤ x.toInt ∧ x.toInt ≤ u ∧ x.toInt ≤ (k : Int) * cq_n h 40 13
  | (9, l, u, _) => ∃ x : Int32, v = .int x ∧ l ≤ x.toInt ∧ x.toInt ≤ u ∧ (x.toInt < cq_n h 40 13 ∨ x.toInt = 0)
  | (10, l, u, _) => ∃ x : Int32, v = .int x ∧ l ≤ x.toInt ∧ x.toInt ≤ u - j
  | (11, _, _, k, c, i) => (v = .null ∧ cq_n h c i ≤ j) ∨ ∃ a, v = .ref a ∧ cq_kOk h a (0, k, 0)
  | _ => False
def cq_fix (c : Nat) : am_Sh := bif Nat.blt c 85 then (bif Nat.blt c 62 then (bif Nat.blt c 51 then (bif Nat.blt c 45 then (bif Nat.blt c 42 then (bif Nat.blt c 41 then ((0, 11, 20)) else ((0, 9, 7))) else (bif Nat.blt c 43 then ((1, 1, 1600)) else (bif Nat.blt c 44 then ((0, 8, 6)) else ((1, 0, 7))))) else (bif Nat.blt c 48 then (bif Nat.blt c 46 then ((1, 0, 6)) else (bif Nat.blt c 47 then ((1, 0, 7)) else ((1, 0, 6)))) else (bif Nat.blt c 49 then ((0, 7, 6)) else (bif Nat.blt c 50 then ((1, 8, 80)) else ((1, 0, 60)))))) else (bif Nat.blt c 56 then (bif Nat.blt c 53 then ((1, 0, 60)) else (bif Nat.blt c 54 then ((0, 0, 6)) else (bif Nat.blt c 55 then ((0, 3, 10)) else ((1, 3, 240))))) else (bif Nat.blt c 59 then (bif Nat.blt c 57 then ((1, 0, 31)) else (bif Nat.blt c 58 then ((1, 0, 30)) else ((1, 0, 31)))) else ((1, 0, 31))))) else (bif Nat.blt c 73 then (bif Nat.blt c 67 then (bif Nat.blt c 64 then (bif Nat.blt c 63 then ((1, 0, 9)) else ((0, 2, 12))) else (bif Nat.blt c 65 then ((1, 0, 20)) else (bif Nat.blt c 66 then ((1, 0, 15)) else ((1, 5, 0))))) else (bif Nat.blt c 70 then (bif Nat.blt c 68 then ((0, 5, 5)) else (bif Nat.blt c 69 then ((1, 0, 14)) else ((1, 0, 10)))) else (bif Nat.blt c 71 then ((1, 0, 100)) else (bif Nat.blt c 72 then ((1, 0, 10240)) else ((0, 10, 14)))))) else (bif Nat.blt c 79 then (bif Nat.blt c 76 then (bif Nat.blt c 74 then ((1, 10, 40)) else (bif Nat.blt c 75 then ((1, 5, 14)) else ((1, 0, 14)))) else (bif Nat.blt c 77 then ((1, 0, 20)) else (bif Nat.blt c 78 then ((1, 0, 14)) else ((0, 13, 82))))) else (bif Nat.blt c 82 then (bif Nat.blt c 80 then ((0, 12, 6)) else (bif Nat.blt c 81 then ((1, 1, 1600)) else ((1, 0, 7)))) else (bif Nat.blt c 83 then ((1, 0, 6)) else (bif Nat.blt c 84 then ((1, 0, 7)) else ((1, 0, 6)))))))) else (bif Nat.blt c 107 then (bif Nat.blt c 96 then (bif Nat.blt c 90 then (bif Nat.blt c 87 then (bif Nat.blt c 86 then ((1, 2, 13)) else ((1, 0, 40))) else ((1, 0, 40))) else (bif Nat.blt c 93 then ((1, 0, 40)) else (bif Nat.blt c 94 then ((1, 0, 121)) else (bif Nat.blt c 95 then ((1, 0, 3630)) else ((1, 3, 29040)))))) else (bif Nat.blt c 101 then (bif Nat.blt c 98 then ((1, 2, 3630)) else (bif Nat.blt c 99 then ((1, 0, 31)) else (bif Nat.blt c 100 then ((1, 0, 31)) else ((1, 0, 30))))) else (bif Nat.blt c 104 then (bif Nat.blt c 102 then ((1, 0, 81)) else (bif Nat.blt c 103 then ((1, 0, 961)) else ((1, 0, 81)))) else ((1, 0, 81))))) else (bif Nat.blt c 118 then (bif Nat.blt c 112 then ((1, 0, 81)) else (bif Nat.blt c 115 then (bif Nat.blt c 113 then ((1, 0, 81)) else (bif Nat.blt c 114 then ((1, 0, 81)) else ((1, 0, 60)))) else (bif Nat.blt c 116 then ((1, 0, 60)) else (bif Nat.blt c 117 then ((1, 0, 60)) else ((1, 0, 14)))))) else (bif Nat.blt c 124 then (bif Nat.blt c 121 then (bif Nat.blt c 119 then ((1, 0, 14)) else (bif Nat.blt c 120 then ((1, 2, 14)) else ((1, 0, 14)))) else (bif Nat.blt c 122 then ((1, 0, 14)) else (bif Nat.blt c 123 then ((1, 0, 20)) else ((1, 0, 10))))) else (bif Nat.blt c 127 then (bif Nat.blt c 125 then ((1, 0, 10240)) else (bif Nat.blt c 126 then ((1, 2, 196)) else ((1, 0, 20)))) else ((1, 0, 14))))))
def cq_cl (k j : Nat) : cq_T := bif Nat.blt k 7 then (bif Nat.blt k 3 then (bif Nat.blt k 1 then (bif Nat.blt j 3 then (bif Nat.blt j 1 then ((3, 0, 0, 54, 0, 0)) else (bif Nat.blt j 2 then ((3, 0, 0, 58, 0, 0)) else ((3, 0, 0, 59, 0, 0)))) else (bif Nat.blt j 4 then ((3, 0, 0, 60, 0, 0)) else (bif Nat.blt j 5 then ((3, 0, 0, 61, 0, 0)) else ((3, 0, 0, 62, 0, 0))))) else (bif Nat.blt k 2 then (bif Nat.blt j 4 then (bif Nat.blt j 2 then (bif Nat.blt j 1 then ((1, (-2147483648), 2147483647, 0, 0, 0)) else ((4, 0, 0, 6, 0, 0))) else (bif Nat.blt j 3 then ((1, 0, 1, 0, 0, 0)) else ((1, (-2147483648), 2147483647, 0, 0, 0)))) else (bif Nat.blt j 6 then (bif Nat.blt j 5 then ((5, 0, 0, 3, 0, 0)) else ((1, (-2147483648), 2147483647, 0, 0, 0))) else ((1, (-2147483648), 2147483647, 0, 0, 0)))) else (bif Nat.blt j 6 then (bif Nat.blt j 3 then (bif Nat.blt j 1 then ((1, (-2147483648), 2147483647, 0, 0, 0)) else (bif Nat.blt j 2 then ((3, 0, 0, 64, 0, 0)) else ((3, 0, 0, 65, 0, 0)))) else (bif Nat.blt j 4 then ((7, 0, 0, 66, 74, 0)) else (bif Nat.blt j 5 then ((8, 0, 14, 1, 0, 0)) else ((1, (-2147483648), 2147483647, 0, 0, 0))))) else ((1, (-2147483648), 2147483647, 0, 0, 0))))) else (bif Nat.blt k 5 then (bif Nat.blt k 4 then (bif Nat.blt j 5 then (bif Nat.blt j 2 then (bif Nat.blt j 1 then ((6, 0, 0, 3, 0, 0)) else ((6, 0, 0, 0, 0, 0))) else (bif Nat.blt j 3 then ((6, 0, 0, 0, 0, 0)) else (bif Nat.blt j 4 then ((1, 0, 30, 0, 0, 0)) else ((1, (-2147483648), 2147483647, 0, 0, 0))))) else (bif Nat.blt j 7 then ((1, (-2147483648), 2147483647, 0, 0, 0)) else (bif Nat.blt j 8 then ((1, (-2147483648), 2147483647, 0, 0, 0)) else (bif Nat.blt j 9 then ((1, (-1), 31, 0, 0, 0)) else ((1, (-2147483648), 2147483647, 0, 0, 0)))))) else ((1, (-2147483648), 2147483647, 0, 0, 0))) else (bif Nat.blt k 6 then (bif Nat.blt j 2 then (bif Nat.blt j 1 then ((3, 0, 0, 68, 0, 0)) else ((3, 0, 0, 69, 0, 0))) else (bif Nat.blt j 3 then ((3, 0, 0, 70, 0, 0)) else (bif Nat.blt j 4 then ((3, 0, 0, 71, 0, 0)) else ((8, 0, 10, 1, 0, 0))))) else (bif Nat.blt j 4 then (bif Nat.blt j 2 then (bif Nat.blt j 1 then ((1, 0, 19, 0, 0, 0)) else ((1, (-2147483648), 2147483647, 0, 0, 0))) else ((1, (-2147483648), 2147483647, 0, 0, 0))) else (bif Nat.blt j 6 then (bif Nat.blt j 5 then ((1, (-1), 19, 0, 0, 0)) else ((1, (-2147483648), 2147483647, 0, 0, 0))) else (bif Nat.blt j 7 then ((1, 0, 3, 0, 0, 0)) else (bif Nat.blt j 8 then ((6, 0, 0, 7, 4, 0)) else ((6, 0, 0, 0, 4, 0))))))))) else (bif Nat.blt k 10 then (bif Nat.blt k 8 then (bif Nat.blt j 3 then (bif Nat.blt j 1 then ((3, 0, 0, 49, 0, 0)) else (bif Nat.blt j 2 then ((1, 0, 80, 0, 0, 0)) else ((3, 0, 0, 50, 0, 0)))) else (bif Nat.blt j 4 then ((3, 0, 0, 51, 0, 0)) else (bif Nat.blt j 5 then ((3, 0, 0, 52, 0, 0)) else ((1, 0, 60, 0, 0, 0))))) else (bif Nat.blt k 9 then (bif Nat.blt j 3 then (bif Nat.blt j 1 then ((3, 0, 0, 44, 0, 0)) else (bif Nat.blt j 2 then ((3, 0, 0, 45, 0, 0)) else ((3, 0, 0, 46, 0, 0)))) else (bif Nat.blt j 4 then ((3, 0, 0, 47, 0, 0)) else ((1, (-2147483648), 2147483647, 0, 0, 0)))) else (bif Nat.blt j 3 then (bif Nat.blt j 1 then ((3, 0, 0, 42, 0, 0)) else (bif Nat.blt j 2 then ((1, 0, 1600, 0, 0, 0)) else ((1, (-2147483648), 2147483647, 0, 0, 0)))) else (bif Nat.blt j 5 then ((1, (-2147483648), 2147483647, 0, 0, 0)) else ((1, 0, 1600, 0, 0, 0)))))) else (bif Nat.blt k 12 then (bif Nat.blt k 11 then (bif Nat.blt j 7 then (bif Nat.blt j 3 then (bif Nat.blt j 1 then ((1, 0, 1, 0, 0, 0)) else ((1, (-2147483648), 2147483647, 0, 0, 0))) else (bif Nat.blt j 5 then (bif Nat.blt j 4 then ((1, (-2147483648), 2147483647, 0, 0, 0)) else ((5, 0, 0, 1, 0, 0))) else (bif Nat.blt j 6 then ((5, 0, 0, 1, 0, 0)) else ((1, (-2147483648), 2147483647, 0, 0, 0))))) else ((1, (-2147483648), 2147483647, 0, 0, 0))) else (bif Nat.blt j 10 then (bif Nat.blt j 5 then (bif Nat.blt j 2 then (bif Nat.blt j 1 then ((3, 0, 0, 41, 0, 0)) else ((3, 0, 0, 43, 0, 0))) else (bif Nat.blt j 3 then ((3, 0, 0, 48, 0, 0)) else (bif Nat.blt j 4 then ((3, 0, 0, 53, 0, 0)) else ((3, 0, 0, 63, 0, 0))))) else (bif Nat.blt j 7 then (bif Nat.blt j 6 then ((3, 0, 0, 67, 0, 0)) else ((3, 0, 0, 72, 0, 0))) else (bif Nat.blt j 8 then ((3, 0, 0, 73, 0, 0)) else (bif Nat.blt j 9 then ((1, 0, 40, 0, 0, 0)) else ((1, 0, 29999, 0, 0, 0)))))) else (bif Nat.blt j 15 then (bif Nat.blt j 12 then ((1, (-2147483648), 2147483647, 0, 0, 0)) else (bif Nat.blt j 13 then ((3, 0, 0, 74, 0, 0)) else (bif Nat.blt j 14 then ((1, 0, 14, 0, 0, 0)) else ((3, 0, 0, 75, 0, 0))))) else (bif Nat.blt j 17 then (bif Nat.blt j 16 then ((8, 0, 14, 14, 0, 0)) else ((3, 0, 0, 76, 0, 0))) else (bif Nat.blt j 18 then ((3, 0, 0, 77, 0, 0)) else (bif Nat.blt j 19 then ((1, 0, 1, 0, 0, 0)) else ((1, (-2147483648), 2147483647, 0, 0, 0)))))))) else (bif Nat.blt k 13 then (bif Nat.blt j 3 then ((0, 0, 0, 0, 0, 0)) else (bif Nat.blt j 4 then ((0, 0, 0, 0, 0, 0)) else (bif Nat.blt j 5 then ((0, 0, 0, 0, 0, 0)) else ((1, (-2147483648), 2147483647, 0, 0, 0))))) else (bif Nat.blt j 41 then (bif Nat.blt j 20 then (bif Nat.blt j 10 then (bif Nat.blt j 5 then (bif Nat.blt j 2 then (bif Nat.blt j 1 then ((3, 0, 0, 79, 0, 0)) else ((3, 0, 0, 80, 0, 0))) else ((1, 0, 1600, 0, 0, 0))) else (bif Nat.blt j 7 then (bif Nat.blt j 6 then ((1, 0, 1600, 0, 0, 0)) else ((1, 0, 4, 0, 0, 0))) else ((1, (-2147483648), 2147483647, 0, 0, 0)))) else (bif Nat.blt j 15 then (bif Nat.blt j 12 then (bif Nat.blt j 11 then ((3, 0, 0, 81, 0, 0)) else ((3, 0, 0, 82, 0, 0))) else (bif Nat.blt j 13 then ((3, 0, 0, 83, 0, 0)) else (bif Nat.blt j 14 then ((3, 0, 0, 84, 0, 0)) else ((3, 0, 0, 85, 0, 0))))) else (bif Nat.blt j 17 then (bif Nat.blt j 16 then ((1, 0, 29999, 0, 0, 0)) else ((1, 0, 40, 0, 0, 0))) else (bif Nat.blt j 18 then ((3, 0, 0, 86, 0, 0)) else (bif Nat.blt j 19 then ((3, 0, 0, 87, 0, 0)) else ((3, 0, 0, 88, 0, 0))))))) else (bif Nat.blt j 30 then (bif Nat.blt j 25 then (bif Nat.blt j 22 then (bif Nat.blt j 21 then ((3, 0, 0, 89, 0, 0)) else ((3, 0, 0, 90, 0, 0))) else (bif Nat.blt j 23 then ((3, 0, 0, 91, 0, 0)) else (bif Nat.blt j 24 then ((3, 0, 0, 92, 0, 0)) else ((3, 0, 0, 93, 0, 0))))) else (bif Nat.blt j 27 then (bif Nat.blt j 26 then ((3, 0, 0, 94, 0, 0)) else ((3, 0, 0, 95, 0, 0))) else (bif Nat.blt j 28 then ((3, 0, 0, 96, 0, 0)) else (bif Nat.blt j 29 then ((3, 0, 0, 97, 0, 0)) else ((3, 0, 0, 98, 0, 0)))))) else (bif Nat.blt j 35 then (bif Nat.blt j 32 then (bif Nat.blt j 31 then ((3, 0, 0, 99, 0, 0)) else ((3, 0, 0, 100, 0, 0))) else (bif Nat.blt j 33 then ((1, 0, 30, 0, 0, 0)) else (bif Nat.blt j 34 then ((3, 0, 0, 101, 0, 0)) else ((3, 0, 0, 102, 0, 0))))) else (bif Nat.blt j 38 then (bif Nat.blt j 36 then ((1, 0, 80, 0, 0, 0)) else (bif Nat.blt j 37 then ((1, 0, 60, 0, 0, 0)) else ((3, 0, 0, 103, 0, 0)))) else (bif Nat.blt j 39 then ((3, 0, 0, 104, 0, 0)) else (bif Nat.blt j 40 then ((3, 0, 0, 105, 0, 0)) else ((3, 0, 0, 106, 0, 0)))))))) else (bif Nat.blt j 61 then (bif Nat.blt j 51 then (bif Nat.blt j 46 then (bif Nat.blt j 43 then (bif Nat.blt j 42 then ((3, 0, 0, 107, 0, 0)) else ((3, 0, 0, 108, 0, 0))) else (bif Nat.blt j 44 then ((3, 0, 0, 109, 0, 0)) else (bif Nat.blt j 45 then ((3, 0, 0, 110, 0, 0)) else ((3, 0, 0, 111, 0, 0))))) else (bif Nat.blt j 48 then (bif Nat.blt j 47 then ((3, 0, 0, 112, 0, 0)) else ((3, 0, 0, 113, 0, 0))) else (bif Nat.blt j 49 then ((3, 0, 0, 114, 0, 0)) else (bif Nat.blt j 50 then ((3, 0, 0, 115, 0, 0)) else ((3, 0, 0, 116, 0, 0)))))) else (bif Nat.blt j 56 then (bif Nat.blt j 53 then (bif Nat.blt j 52 then ((1, 1, 63, 0, 0, 0)) else ((1, 0, 29999, 0, 0, 0))) else (bif Nat.blt j 54 then ((1, 0, 14, 0, 0, 0)) else (bif Nat.blt j 55 then ((1, (-2147483648), 2147483647, 0, 0, 0)) else ((1, 0, 14, 0, 0, 0))))) else (bif Nat.blt j 58 then (bif Nat.blt j 57 then ((3, 0, 0, 117, 0, 0)) else ((3, 0, 0, 118, 0, 0))) else (bif Nat.blt j 59 then ((3, 0, 0, 119, 0, 0)) else (bif Nat.blt j 60 then ((3, 0, 0, 120, 0, 0)) else ((3, 0, 0, 121, 0, 0))))))) else (bif Nat.blt j 71 then (bif Nat.blt j 66 then (bif Nat.blt j 63 then (bif Nat.blt j 62 then ((3, 0, 0, 122, 0, 0)) else ((1, (-2147483648), 2147483647, 0, 0, 0))) else (bif Nat.blt j 64 then ((1, (-2147483648), 2147483647, 0, 0, 0)) else (bif Nat.blt j 65 then ((1, (-2147483648), 2147483647, 0, 0, 0)) else ((3, 0, 0, 123, 0, 0))))) else (bif Nat.blt j 68 then (bif Nat.blt j 67 then ((3, 0, 0, 124, 0, 0)) else ((3, 0, 0, 125, 0, 0))) else ((1, (-2147483648), 2147483647, 0, 0, 0)))) else (bif Nat.blt j 76 then (bif Nat.blt j 73 then ((1, (-2147483648), 2147483647, 0, 0, 0)) else (bif Nat.blt j 74 then ((1, (-2147483648), 2147483647, 0, 0, 0)) else (bif Nat.blt j 75 then ((1, (-2147483648), 2147483647, 0, 0, 0)) else ((1, 0, 1, 0, 0, 0))))) else (bif Nat.blt j 79 then (bif Nat.blt j 77 then ((3, 0, 0, 126, 0, 0)) else (bif Nat.blt j 78 then ((3, 0, 0, 127, 0, 0)) else ((3, 0, 0, 128, 0, 0)))) else (bif Nat.blt j 80 then ((3, 0, 0, 129, 0, 0)) else (bif Nat.blt j 81 then ((1, 0, 14, 0, 0, 0)) else ((1, (-2147483648), 2147483647, 0, 0, 0))))))))))))
def cq_ob (c j : Nat) : cq_T := bif Nat.beq c 54 && Nat.blt j 3 then (3, 0, 0, 55 + j, 0, 0) else cq_cl (cq_fix c).2.1 j
def cq_ar (c : Nat) : cq_T := bif Nat.blt c 85 then (bif Nat.blt c 62 then (bif Nat.blt c 51 then (bif Nat.blt c 45 then (bif Nat.blt c 42 then ((0, 0, 0, 0, 0, 0)) else (bif Nat.blt c 43 then ((1, (-128), 127, 0, 0, 0)) else (bif Nat.blt c 44 then ((0, 0, 0, 0, 0, 0)) else ((1, (-2147483648), 2147483647, 0, 0, 0))))) else (bif Nat.blt c 48 then ((1, (-2147483648), 2147483647, 0, 0, 0)) else (bif Nat.blt c 49 then ((0, 0, 0, 0, 0, 0)) else (bif Nat.blt c 50 then ((11, 0, 0, 4, 48, 1)) else ((1, (-2147483648), 2147483647, 0, 0, 0)))))) else (bif Nat.blt c 56 then (bif Nat.blt c 53 then ((1, (-2147483648), 2147483647, 0, 0, 0)) else (bif Nat.blt c 54 then ((0, 0, 0, 0, 0, 0)) else (bif Nat.blt c 55 then ((0, 0, 0, 0, 0, 0)) else ((2, 0, 0, 0, 0, 0))))) else (bif Nat.blt c 59 then (bif Nat.blt c 57 then ((1, 0, 240, 0, 0, 0)) else (bif Nat.blt c 58 then ((1, (-2147483648), 2147483647, 0, 0, 0)) else ((10, 0, 31, 0, 0, 0)))) else ((1, (-2147483648), 2147483647, 0, 0, 0))))) else (bif Nat.blt c 73 then (bif Nat.blt c 67 then (bif Nat.blt c 64 then (bif Nat.blt c 63 then ((1, (-2147483648), 2147483647, 0, 0, 0)) else ((0, 0, 0, 0, 0, 0))) else (bif Nat.blt c 65 then ((1, (-2147483648), 2147483647, 0, 0, 0)) else (bif Nat.blt c 66 then ((1, (-2147483648), 2147483647, 0, 0, 0)) else ((5, 0, 0, 1, 0, 0))))) else (bif Nat.blt c 70 then (bif Nat.blt c 68 then ((0, 0, 0, 0, 0, 0)) else ((9, 0, 13, 0, 0, 0))) else (bif Nat.blt c 71 then ((1, (-2147483648), 2147483647, 0, 0, 0)) else (bif Nat.blt c 72 then ((1, (-2147483648), 2147483647, 0, 0, 0)) else ((0, 0, 0, 0, 0, 0)))))) else (bif Nat.blt c 79 then (bif Nat.blt c 76 then (bif Nat.blt c 74 then ((5, 0, 0, 6, 0, 0)) else (bif Nat.blt c 75 then ((11, 0, 0, 1, 40, 13)) else ((9, 0, 13, 0, 0, 0)))) else (bif Nat.blt c 77 then ((1, (-2147483648), 2147483647, 0, 0, 0)) else (bif Nat.blt c 78 then ((1, (-2147483648), 2147483647, 0, 0, 0)) else ((0, 0, 0, 0, 0, 0))))) else (bif Nat.blt c 82 then (bif Nat.blt c 80 then ((0, 0, 0, 0, 0, 0)) else (bif Nat.blt c 81 then ((1, (-128), 127, 0, 0, 0)) else ((1, (-2147483648), 2147483647, 0, 0, 0)))) else ((1, (-2147483648), 2147483647, 0, 0, 0)))))) else (bif Nat.blt c 107 then (bif Nat.blt c 96 then (bif Nat.blt c 90 then (bif Nat.blt c 87 then (bif Nat.blt c 86 then ((1, 0, 1, 0, 0, 0)) else ((1, 0, 19, 0, 0, 0))) else (bif Nat.blt c 88 then ((1, 0, 2100, 0, 0, 0)) else (bif Nat.blt c 89 then ((1, 0, 19, 0, 0, 0)) else ((1, 0, 99, 0, 0, 0))))) else (bif Nat.blt c 93 then (bif Nat.blt c 91 then ((1, (-1), 19, 0, 0, 0)) else (bif Nat.blt c 92 then ((1, 0, 99, 0, 0, 0)) else ((1, 0, 3, 0, 0, 0)))) else (bif Nat.blt c 94 then ((1, 0, 30, 0, 0, 0)) else (bif Nat.blt c 95 then ((1, 0, 8, 0, 0, 0)) else ((2, 0, 0, 0, 0, 0)))))) else (bif Nat.blt c 101 then (bif Nat.blt c 98 then ((1, 0, 1, 0, 0, 0)) else (bif Nat.blt c 99 then ((1, 0, 1000000000, 0, 0, 0)) else ((1, (-2147483648), 2147483647, 0, 0, 0)))) else (bif Nat.blt c 104 then ((1, (-2147483648), 2147483647, 0, 0, 0)) else (bif Nat.blt c 105 then ((1, (-2147483648), 2147483647, 0, 0, 0)) else (bif Nat.blt c 106 then ((1, (-2147483648), 2147483647, 0, 0, 0)) else ((1, 0, 9999, 0, 0, 0))))))) else (bif Nat.blt c 118 then (bif Nat.blt c 112 then (bif Nat.blt c 109 then (bif Nat.blt c 108 then ((1, 0, 2, 0, 0, 0)) else ((1, (-2147483648), 2147483647, 0, 0, 0))) else (bif Nat.blt c 110 then ((1, (-1), 2, 0, 0, 0)) else (bif Nat.blt c 111 then ((1, (-2147483648), 2147483647, 0, 0, 0)) else ((1, 0, 29999, 0, 0, 0))))) else (bif Nat.blt c 115 then ((1, (-2147483648), 2147483647, 0, 0, 0)) else (bif Nat.blt c 116 then ((1, (-2147483648), 2147483647, 0, 0, 0)) else (bif Nat.blt c 117 then ((1, (-2147483648), 2147483647, 0, 0, 0)) else ((1, 0, 39, 0, 0, 0)))))) else (bif Nat.blt c 124 then (bif Nat.blt c 121 then (bif Nat.blt c 119 then ((1, 0, 13, 0, 0, 0)) else (bif Nat.blt c 120 then ((1, 0, 1, 0, 0, 0)) else ((1, (-2147483648), 2147483647, 0, 0, 0)))) else (bif Nat.blt c 122 then ((1, (-2147483648), 2147483647, 0, 0, 0)) else (bif Nat.blt c 123 then ((1, (-2147483648), 2147483647, 0, 0, 0)) else ((1, 0, 13, 0, 0, 0))))) else (bif Nat.blt c 127 then (bif Nat.blt c 125 then ((1, (-2147483648), 2147483647, 0, 0, 0)) else (bif Nat.blt c 126 then ((1, 0, 1, 0, 0, 0)) else ((1, (-2147483648), 2147483647, 0, 0, 0)))) else ((1, (-2147483648), 2147483647, 0, 0, 0))))))
def cq_sv (c j : Nat) : Int := bif Nat.blt c 4 then (bif Nat.blt c 2 then (bif Nat.blt j 3 then (bif Nat.blt j 1 then (20) else (bif Nat.blt j 2 then (8) else (2))) else (bif Nat.blt j 5 then (4) else (bif Nat.blt j 6 then (99999) else (9)))) else (bif Nat.blt c 3 then (bif Nat.blt j 3 then (bif Nat.blt j 1 then (6) else (bif Nat.blt j 2 then (2) else (0))) else (bif Nat.blt j 5 then (bif Nat.blt j 4 then (0) else (1)) else (bif Nat.blt j 6 then (0) else (1)))) else (bif Nat.blt j 3 then (bif Nat.blt j 1 then (60) else (bif Nat.blt j 2 then (32) else (4))) else (bif Nat.blt j 5 then (bif Nat.blt j 4 then (30) else (40)) else (bif Nat.blt j 6 then (99999) else (9)))))) else (bif Nat.blt c 5 then (bif Nat.blt j 3 then (bif Nat.blt j 1 then (20) else (bif Nat.blt j 2 then (8) else (2))) else (bif Nat.blt j 5 then (4) else (bif Nat.blt j 6 then (99999) else (9)))) else (bif Nat.blt c 6 then (bif Nat.blt j 3 then (bif Nat.blt j 1 then (6) else (bif Nat.blt j 2 then (2) else (0))) else (bif Nat.blt j 5 then (bif Nat.blt j 4 then (0) else (1)) else (bif Nat.blt j 6 then (0) else (1)))) else (bif Nat.blt j 3 then (bif Nat.blt j 1 then (60) else (bif Nat.blt j 2 then (32) else (4))) else (bif Nat.blt j 5 then (bif Nat.blt j 4 then (30) else (40)) else (bif Nat.blt j 6 then (99999) else (9))))))
def cq_isA (c : Nat) : Bool := Nat.beq (cq_fix c).1 1
def cq_ty (c j : Nat) : cq_T := bif cq_isA c then (bif (Nat.beq c 81 || Nat.beq c 83) && Nat.beq j 1 then (1, bif Nat.beq c 83 then 0 else 2, 32, 0, 0, 0) else cq_ar c) else cq_ob c j
def cq_at (tc : Nat) : cq_T := bif Nat.beq tc 0 then (1, -2147483648, 2147483647, 0, 0, 0) else bif Nat.beq tc 3 then (2, 0, 0, 0, 0, 0) else bif Nat.beq tc 7 then (5, 0, 0, 3, 0, 0) else (0, 0, 0, 0, 0, 0)
def cq_tyOf (c : Nat) (sh : am_Sh) (j : Nat) : cq_T := bif Nat.blt c 130 then cq_ty c j else bif Nat.beq sh.1 0 then cq_cl sh.2.1 j else cq_at sh.2.1
/-- every place but those of one cell has a value of its type -/
def cq_Inv (x : Option Nat) (h : am_H) : Prop := 130 ≤ h.1 ∧ (∀ c, 40 ≤ c → c < 130 → h.2.2.1 c = cq_fix c)
  ∧ (∀ c, 1 ≤ c → c < 7 → h.2.2.1 c = (2, 0, 7) ∧ ∀ j, j < 7 → h.2.2.2 c j = .int (Int32.ofInt (cq_sv c j)))
  ∧ ((h.2.2.1 0).1 = 2 ∧ (h.2.2.1 0).2.1 = 0 ∧ (h.2.2.1 0).2.2 ≤ 100000 ∧ ∀ j, j < (h.2.2.1 0).2.2 → ∃ v : Int32, h.2.2.2 0 j = .int v)
  ∧ (∀ c, 130 ≤ c → c < h.1 → (∃ k, h.2.2.1 c = (0, k, am_N k)) ∨ ((h.2.2.1 c).1 = 1 ∧ (h.2.2.1 c).2.2 ≤ 100000))
  ∧ (∀ c, 40 ≤ c → c < h.1 → some c ≠ x → ∀ j, j < (h.2.2.1 c).2.2 → cq_ht h j (cq_tyOf c (h.2.2.1 c) j) (h.2.2.2 c j))
  ∧ (∀ t, t < 120 → (1 ≤ cq_n h 93 t → h.2.2.2 96 (30 * t) = .int 1) ∧ (((t % 3 : Nat) : Int) < cq_n h 92 (t / 3) → 1 ≤ cq_n h 93 t))
section CQI
variable {x : Option Nat} {h : am_H} (I : cq_Inv x h)
theorem cq_Inv.lo (I : cq_Inv x h) : 130 ≤ h.1 := I.1
theorem cq_Inv.fx (I : cq_Inv x h) : ∀ c, 40 ≤ c → c < 130 → h.2.2.1 c = cq_fix c := I.2.1
theorem cq_Inv.sv (I : cq_Inv x h) : ∀ c, 1 ≤ c → c < 7 → h.2.2.1 c = (2, 0, 7) ∧ ∀ j, j < 7 → h.2.2.2 c j = .int (Int32.ofInt (cq_sv c j)) := I.2.2.1
theorem cq_Inv.sc (I : cq_Inv x h) : (h.2.2.1 0).1 = 2 ∧ (h.2.2.1 0).2.1 = 0 ∧ (h.2.2.1 0).2.2 ≤ 100000 ∧ ∀ j, j < (h.2.2.1 0).2.2 → ∃ v : Int32, h.2.2.2 0 j = .int v := I.2.2.2.1
theorem cq_Inv.dy (I : cq_Inv x h) : ∀ c, 130 ≤ c → c < h.1 → (∃ k, h.2.2.1 c = (0, k, am_N k)) ∨ ((h.2.2.1 c).1 = 1 ∧ (h.2.2.1 c).2.2 ≤ 100000) := I.2.2.2.2.1
theorem cq_Inv.ty (I : cq_Inv x h) : ∀ c, 40 ≤ c → c < h.1 → some c ≠ x → ∀ j, j < (h.2.2.1 c).2.2 → cq_ht h j (cq_tyOf c (h.2.2.1 c) j) (h.2.2.2 c j) := I.2.2.2.2.2.1
theorem cq_Inv.sx (I : cq_Inv x h) : ∀ t, t < 120 → (1 ≤ cq_n h 93 t → h.2.2.2 96 (30 * t) = .int 1) ∧ (((t % 3 : Nat) : Int) < cq_n h 92 (t / 3) → 1 ≤ cq_n h 93 t) := I.2.2.2.2.2.2
theorem cq_Inv.s4 (I : cq_Inv x h) : ∀ t, t < 120 → 1 ≤ cq_n h 93 t → h.2.2.2 96 (30 * t) = .int 1 := fun t q => (I.sx t q).1
theorem cq_Inv.s5 (I : cq_Inv x h) : ∀ t, t < 120 → ((t % 3 : Nat) : Int) < cq_n h 92 (t / 3) → 1 ≤ cq_n h 93 t := fun t q => (I.sx t q).2
end CQI
/-- what may be written: a fixed cell's place (false, cell, place + 1 or 0), a kind's (true, 0 or 1, number or code, place + 1 or 0) -/
abbrev cq_W : Type := List (Bool × Nat × Nat × Nat)
def cq_inW (m : cq_W) (c : Nat) (sh : am_Sh) (j : Nat) : Bool := m.any fun w => bif w.1 then Nat.ble 130 c && Nat.beq w.2.1 sh.1 && Nat.beq w.2.2.1 sh.2.1 && (Nat.beq w.2.2.2 0 || Nat.beq w.2.2.2 (j + 1)) else Nat.beq w.2.1 c && (Nat.beq w.2.2.1 0 || Nat.beq w.2.2.1 (j + 1))
def cq_Fr (m : cq_W) (h0 h : am_H) : Prop := h0.1 ≤ h.1 ∧ (∀ c, c < h0.1 → h.2.2.1 c = h0.2.2.1 c) ∧ (∀ c, c < h0.1 → ∀ j, cq_inW m c (h0.2.2.1 c) j = false → h.2.2.2 c j = h0.2.2.2 c j)
theorem cq_Fr.nx {m : cq_W} {h0 h : am_H} (F : cq_Fr m h0 h) : h0.1 ≤ h.1 := F.1
theorem cq_Fr.sh {m : cq_W} {h0 h : am_H} (F : cq_Fr m h0 h) : ∀ c, c < h0.1 → h.2.2.1 c = h0.2.2.1 c := F.2.1
theorem cq_Fr.vl {m : cq_W} {h0 h : am_H} (F : cq_Fr m h0 h) : ∀ c, c < h0.1 → ∀ j, cq_inW m c (h0.2.2.1 c) j = false → h.2.2.2 c j = h0.2.2.2 c j := F.2.2
abbrev cq_C : Type := Bool × Nat
def cq_ce (ρ : Nat → Int) (c : cq_C) : Nat := bif c.1 then (ρ c.2).toNat else c.2
/-- a store: next symbol, bounds and facts, what is null and what not, kinds, cells newly made, known places, known lengths, known ands, the cell under making, cells and places made -/
def cq_S : Type := Nat × cq_P × List (Nat × Bool) × List (Nat × cq_Kd) × List Nat × List (cq_C × cq_F × cq_A) × List (cq_C × cq_F) × List (cq_F × cq_F × cq_F) × Option (Nat × Nat) × Nat × Nat
def cq_mk (n : Nat) (P : cq_P) (N : List (Nat × Bool)) (K : List (Nat × cq_Kd)) (W : List Nat) (T : List (cq_C × cq_F × cq_A)) (L : List (cq_C × cq_F)) (M : List (cq_F × cq_F × cq_F)) (U : Option (Nat × Nat)) (ac al : Nat) : cq_S := (n, P, N, K, W, T, L, M, U, ac, al)
def cq_S.n (S : cq_S) : Nat := S.1
def cq_S.P (S : cq_S) : cq_P := S.2.1
def cq_S.N (S : cq_S) : List (Nat × Bool) := S.2.2.1
def cq_S.K (S : cq_S) : List (Nat × cq_Kd) := S.2.2.2.1
def cq_S.W (S : cq_S) : List Nat := S.2.2.2.2.1
def cq_S.T (S : cq_S) : List (cq_C × cq_F × cq_A) := S.2.2.2.2.2.1
def cq_S.L (S : cq_S) : List (cq_C × cq_F) := S.2.2.2.2.2.2.1
def cq_S.M (S : cq_S) : List (cq_F × cq_F × cq_F) := S.2.2.2.2.2.2.2.1
def cq_S.U (S : cq_S) : Option (Nat × Nat) := S.2.2.2.2.2.2.2.2.1
def cq_S.ac (S : cq_S) : Nat := S.2.2.2.2.2.2.2.2.2.1
def cq_S.al (S : cq_S) : Nat := S.2.2.2.2.2.2.2.2.2.2
def cq_S.sP (S : cq_S) (P : cq_P) : cq_S := cq_mk S.n P S.N S.K S.W S.T S.L S.M S.U S.ac S.al
def cq_S.sN (S : cq_S) (N : List (Nat × Bool)) : cq_S := cq_mk S.n S.P N S.K S.W S.T S.L S.M S.U S.ac S.al
def cq_S.sT (S : cq_S) (T : List (cq_C × cq_F × cq_A)) : cq_S := cq_mk S.n S.P S.N S.K S.W T S.L S.M S.U S.ac S.al
/-- the length of an array or a text -/
def cq_len (h : am_H) (c : Nat) : Nat := bif Nat.ble 7 c && Nat.blt c 23 then am_slen (c - 7) else (h.2.2.1 c).2.2
/-- what a method of the reference answers on a heap -/
noncomputable def cq_An (h : am_H) (y : Nat) (as : List Value) : Int := (Classical.epsilon fun r : Int32 => ∃ h', am_ev 60 y 0 (am_ent as (am_in y).2.2.1) [] h (some (.int r), h')).toInt
/-- arguments out of one number -/
def cq_dg : Nat → Int → List Value
  | 0, _ => []
  | n + 1, x => .int (Int32.ofInt (x % 65536)) :: cq_dg n (x / 65536)
noncomputable def cq_U0 (h : am_H) (k : Nat) (x : Int) : Int := bif Nat.blt k 1000 then cq_An h k (.ref 78 :: cq_dg ((am_in k).2.1 - 1) x) else cq_n h (k - 1000) x.toNat
/-- a poem that may be printed, and one that every place of the row has -/
def cq_AL (h : am_H) (p : Int) : Prop := 0 ≤ cq_U0 h 230 p ∧ 0 ≤ cq_U0 h 231 p + cq_U0 h 222 (p + 65536 * cq_n h 78 15)
def cq_RW (h : am_H) : Prop := ∀ i : Nat, (i : Int) < cq_n h 78 55 → cq_AL h (cq_n h 117 (cq_n h 118 i).toNat)
/-- what is asked of a heap by number: below 1000 a method's answer, from 1000 on what stands in a cell, from 2000 on whether the row may be printed -/
noncomputable def cq_U (h : am_H) (k : Nat) (x : Int) : Int := bif Nat.blt k 2000 then cq_U0 h k x else (Classical.epsilon fun r : Int32 => (r = 1 ∧ cq_RW h) ∨ (r = 0 ∧ ¬ cq_RW h)).toInt
def cq_okT (k : Nat) : Bool := Nat.beq k 220 || Nat.beq k 222 || Nat.beq k 230 || Nat.beq k 231 || Nat.beq k 199 || Nat.beq k 1092 || Nat.beq k 1093 || Nat.beq k 1096 || Nat.beq k 2000
/-- an and, or what is asked of the heap at the start -/
def cq_mOk (h0 : am_H) (ρ : Nat → Int) (e : cq_F × cq_F × cq_F) : Prop := (∀ x y : Int32, x.toInt = cq_e ρ e.1 → y.toInt = cq_e ρ e.2.1 → (x &&& y).toInt = cq_e ρ e.2.2) ∧ (∀ k : Nat, e.2.1 = ((1000000000000 : Int) + (k : Int), []) → cq_e ρ e.2.2 = cq_U h0 k (cq_e ρ e.1))
theorem cq_U_rng (h : am_H) (k : Nat) (x : Int) : -2147483648 ≤ cq_U h k x ∧ cq_U h k x ≤ 2147483647 := by
  have r32 : ∀ a : Int32, -2147483648 ≤ a.toInt ∧ a.toInt ≤ 2147483647 := fun a => by
    have b1 := a.le_toInt
    have b2 := a.toInt_lt
    exact ⟨by omega, by omega⟩
  unfold cq_U
  cases Nat.blt k 2000 with
  | false => exact r32 _
  | true =>
    show -2147483648 ≤ cq_U0 h k x ∧ cq_U0 h k x ≤ 2147483647
    unfold cq_U0
    cases Nat.blt k 1000 with
    | true => exact r32 _
    | false =>
      show -2147483648 ≤ cq_n h (k - 1000) x.toNat ∧ cq_n h (k - 1000) x.toNat ≤ 2147483647
      unfold cq_n
      split
      · exact r32 _
      · omega
def cq_Md (m : cq_W) (h0 : am_H) (ρ : Nat → Int) (S : cq_S) (h : am_H) : Prop := cq_pOk ρ S.P
  ∧ (∀ e ∈ S.N, (e.2 = true → 0 ≤ ρ e.1) ∧ (e.2 = false → ρ e.1 < 0))
  ∧ (∀ e ∈ S.K, 0 ≤ ρ e.1 → cq_kOk h (ρ e.1).toNat e.2)
  ∧ (∀ s ∈ S.W, s < S.n ∧ (h0.1 : Int) ≤ ρ s ∧ ∀ e ∈ S.K, e.1 < s → ρ e.1 < ρ s)
  ∧ (∀ e ∈ S.T, cq_g ρ e.2.2 (h.2.2.2 (cq_ce ρ e.1) (cq_e ρ e.2.1).toNat))
  ∧ (∀ e ∈ S.L, cq_e ρ e.2 = cq_len h (cq_ce ρ e.1))
  ∧ (∀ e ∈ S.M, cq_mOk h0 ρ e)
  ∧ cq_Inv (S.U.map fun q => (ρ q.1).toNat) h
  ∧ cq_Fr m h0 h
  ∧ (h.1 ≤ h0.1 + S.ac ∧ h.2.1 ≤ h0.2.1 + S.al)
  ∧ (∀ q, S.U = some q → 130 ≤ ρ q.1 ∧ (h0.1 : Int) ≤ ρ q.1)
section CQM
variable {m : cq_W} {h0 : am_H} {ρ : Nat → Int} {S : cq_S} {h : am_H}
theorem cq_Md.P (D : cq_Md m h0 ρ S h) : cq_pOk ρ S.P := D.1
theorem cq_Md.N (D : cq_Md m h0 ρ S h) : ∀ e ∈ S.N, (e.2 = true → 0 ≤ ρ e.1) ∧ (e.2 = false → ρ e.1 < 0) := D.2.1
theorem cq_Md.K (D : cq_Md m h0 ρ S h) : ∀ e ∈ S.K, 0 ≤ ρ e.1 → cq_kOk h (ρ e.1).toNat e.2 := D.2.2.1
theorem cq_Md.W (D : cq_Md m h0 ρ S h) : ∀ s ∈ S.W, s < S.n ∧ (h0.1 : Int) ≤ ρ s ∧ ∀ e ∈ S.K, e.1 < s → ρ e.1 < ρ s := D.2.2.2.1
theorem cq_Md.T (D : cq_Md m h0 ρ S h) : ∀ e ∈ S.T, cq_g ρ e.2.2 (h.2.2.2 (cq_ce ρ e.1) (cq_e ρ e.2.1).toNat) := D.2.2.2.2.1
theorem cq_Md.L (D : cq_Md m h0 ρ S h) : ∀ e ∈ S.L, cq_e ρ e.2 = cq_len h (cq_ce ρ e.1) := D.2.2.2.2.2.1
theorem cq_Md.M (D : cq_Md m h0 ρ S h) : ∀ e ∈ S.M, cq_mOk h0 ρ e := D.2.2.2.2.2.2.1
theorem cq_Md.I (D : cq_Md m h0 ρ S h) : cq_Inv (S.U.map fun q => (ρ q.1).toNat) h := D.2.2.2.2.2.2.2.1
theorem cq_Md.F (D : cq_Md m h0 ρ S h) : cq_Fr m h0 h := D.2.2.2.2.2.2.2.2.1
theorem cq_Md.A (D : cq_Md m h0 ρ S h) : h.1 ≤ h0.1 + S.ac ∧ h.2.1 ≤ h0.2.1 + S.al := D.2.2.2.2.2.2.2.2.2.1
theorem cq_Md.U (D : cq_Md m h0 ρ S h) : ∀ q, S.U = some q → 130 ≤ ρ q.1 ∧ (h0.1 : Int) ≤ ρ q.1 := D.2.2.2.2.2.2.2.2.2.2
theorem cq_Md.sP (D : cq_Md m h0 ρ S h) {P : cq_P} (hP : cq_pOk ρ P) : cq_Md m h0 ρ (S.sP P) h := ⟨hP, D.2⟩
theorem cq_Md.sN (D : cq_Md m h0 ρ S h) {N : List (Nat × Bool)} (hN : ∀ e ∈ N, (e.2 = true → 0 ≤ ρ e.1) ∧ (e.2 = false → ρ e.1 < 0)) : cq_Md m h0 ρ (S.sN N) h := ⟨D.1, hN, D.2.2⟩
theorem cq_Md.sT (D : cq_Md m h0 ρ S h) {T : List (cq_C × cq_F × cq_A)} (hT : ∀ e ∈ T, cq_g ρ e.2.2 (h.2.2.2 (cq_ce ρ e.1) (cq_e ρ e.2.1).toNat)) : cq_Md m h0 ρ (S.sT T) h := ⟨D.1, D.2.1, D.2.2.1, D.2.2.2.1, hT, D.2.2.2.2.2⟩
end CQM
/-- two valuations are alike below n -/
def cq_ag (n : Nat) (ρ' ρ : Nat → Int) : Prop := ∀ s, s < n → ρ' s = ρ s
theorem cq_ag.rf {n : Nat} {ρ : Nat → Int} : cq_ag n ρ ρ := fun _ _ => rfl
theorem cq_ag.tr {n : Nat} {a b c : Nat → Int} (h1 : cq_ag n a b) (h2 : cq_ag n b c) : cq_ag n a c := fun s hs => (h1 s hs).trans (h2 s hs)
theorem cq_ag.lt {n k : Nat} {a b : Nat → Int} (h : cq_ag n a b) (hk : k ≤ n) : cq_ag k a b := fun s hs => h s (Nat.lt_of_lt_of_le hs hk)
/-- a valuation with one symbol more -/
def cq_up (ρ : Nat → Int) (n : Nat) (w : Int) : Nat → Int := fun s => if s = n then w else ρ s
theorem cq_up_s {ρ ρ' : Nat → Int} {n : Nat} {w : Int} (h : cq_ag (n + 1) ρ' (cq_up ρ n w)) : ρ' n = w := by
  rw [h n (Nat.lt_succ_self n)]
  exact if_pos rfl
theorem cq_up_a {ρ ρ' : Nat → Int} {n : Nat} {w : Int} (h : cq_ag (n + 1) ρ' (cq_up ρ n w)) : cq_ag n ρ' ρ := fun s hs => by
  rw [h s (Nat.lt_succ_of_lt hs)]
  exact if_neg (Nat.ne_of_lt hs)
theorem cq_up_g {ρ : Nat → Int} {n : Nat} {w : Int} : cq_ag n (cq_up ρ n w) ρ := fun _ hs => if_neg (Nat.ne_of_lt hs)
end
section
/-! THE CHECKER, 4: lists of values, new symbols, steps that leave the heap alone -/
theorem cq_gs_len {ρ : Nat → Int} : ∀ {as : List cq_A} {vs : List Value}, cq_gs ρ as vs → as.length = vs.length
  | [], [], _ => rfl
  | [], _ :: _, h => h.elim
  | _ :: _, [], h => h.elim
  | _ :: as, _ :: vs, h => by
    simp only [List.length_cons]
    rw [cq_gs_len h.2]
theorem cq_gs_get {ρ : Nat → Int} : ∀ {as : List cq_A} {vs : List Value} {i : Nat} {a : cq_A}, cq_gs ρ as vs → as[i]? = some a → ∃ v, vs[i]? = some v ∧ cq_g ρ a v
  | [], _, i, a, _, h => by simp at h
  | _ :: _, [], _, _, h, _ => h.elim
  | b :: as, v :: vs, 0, a, h, e => by
    simp only [List.getElem?_cons_zero, Option.some.injEq] at e
    exact ⟨v, rfl, e ▸ h.1⟩
  | b :: as, v :: vs, i + 1, a, h, e => by
    simp only [List.getElem?_cons_succ] at e ⊢
    exact cq_gs_get h.2 e
theorem cq_gs_set {ρ : Nat → Int} {a : cq_A} {v : Value} (ha : cq_g ρ a v) : ∀ {as : List cq_A} {vs : List Value} (i : Nat), cq_gs ρ as vs → cq_gs ρ (as.set i a) (vs.set i v)
  | [], [], _, h => h
  | [], _ :: _, _, h => h.elim
  | _ :: _, [], _, h => h.elim
  | b :: as, w :: vs, 0, h => ⟨ha, h.2⟩
  | b :: as, w :: vs, i + 1, h => ⟨h.1, cq_gs_set ha i h.2⟩
/-- a place is set to anything: the values may be as they were -/
theorem cq_gs_setu {ρ : Nat → Int} : ∀ {as : List cq_A} {vs : List Value} (i : Nat), cq_gs ρ as vs → cq_gs ρ (as.set i cq_u) vs
  | [], [], _, h => h
  | [], _ :: _, _, h => h.elim
  | _ :: _, [], _, h => h.elim
  | b :: as, w :: vs, 0, h => ⟨trivial, h.2⟩
  | b :: as, w :: vs, i + 1, h => ⟨h.1, cq_gs_setu i h.2⟩
def cq_kill (ls : List cq_A) (i : Nat) : List cq_A := match i with
  | 0 => ls
  | j + 1 => (match ls[j]? with
    | some a => bif Nat.beq a.1 2 || Nat.beq a.1 0 then ls.set j cq_u else ls
    | none => ls)
theorem cq_cat1 {ρ : Nat → Int} {a : cq_A} {v : Value} (h : cq_g ρ a v) (h2 : a.1 ≠ 2) (h0 : a.1 ≠ 0) : v.category = 1 := by
  obtain ⟨t, f, k⟩ := a
  rcases t with _ | _ | _ | _ | _ | _ | _ | t
  · exact absurd rfl h0
  · obtain ⟨x, e, -⟩ := h; rw [e]; rfl
  · exact absurd rfl h2
  · obtain ⟨x, e, -⟩ := h; rw [e]; rfl
  · have e : v = .null := h
    rw [e]; rfl
  · have e : v = .ref k := h
    rw [e]; rfl
  · rcases h with ⟨-, e⟩ | ⟨-, e⟩ <;> (rw [e]; rfl)
  · exact h.elim
theorem cq_cat2 {ρ : Nat → Int} {f : cq_F} {k : Nat} {v : Value} (h : cq_g ρ (2, f, k) v) : v.category = 2 := by
  obtain ⟨x, e, -⟩ := h
  rw [e]; rfl
theorem cq_kill_ok {ρ : Nat → Int} {as : List cq_A} {vs : List Value} (h : cq_gs ρ as vs) (i : Nat) : cq_gs ρ (cq_kill as i) (am_kill vs i) := by
  cases i with
  | zero => exact h
  | succ j =>
    show cq_gs ρ (match as[j]? with
      | some a => bif Nat.beq a.1 2 || Nat.beq a.1 0 then as.set j cq_u else as
      | none => as) (match vs[j]? with
      | some v => bif Nat.beq v.category 2 then vs.set j am_ph else vs
      | none => vs)
    cases ha : as[j]? with
    | none =>
      have hv : vs[j]? = none := by
        rw [List.getElem?_eq_none_iff] at ha ⊢
        rw [← cq_gs_len h]; exact ha
      rw [hv]
      exact h
    | some a =>
      obtain ⟨v, hv, hg⟩ := cq_gs_get h ha
      rw [hv]
      dsimp only
      cases hb : Nat.beq a.1 2 || Nat.beq a.1 0 with
      | true =>
        cases Nat.beq v.category 2 with
        | true => exact cq_gs_set (a := cq_u) trivial j h
        | false => exact cq_gs_setu j h
      | false =>
        have h2 : a.1 ≠ 2 := fun q => by rw [q] at hb; cases hb
        have h0 : a.1 ≠ 0 := fun q => by rw [q] at hb; cases hb
        rw [cq_cat1 hg h2 h0]
        exact h
def cq_set1 (ls : List cq_A) (i : Nat) (v : cq_A) : List cq_A := (cq_kill ls i).set i v
def cq_set2 (ls : List cq_A) (i : Nat) (v : cq_A) : List cq_A := ((cq_kill ls i).set i v).set (i + 1) cq_u
theorem cq_set1_ok {ρ : Nat → Int} {as : List cq_A} {vs : List Value} {a : cq_A} {v : Value} (h : cq_gs ρ as vs) (ha : cq_g ρ a v) (i : Nat) : cq_gs ρ (cq_set1 as i a) (am_set1 vs i v) := cq_gs_set ha i (cq_kill_ok h i)
theorem cq_set2_ok {ρ : Nat → Int} {as : List cq_A} {vs : List Value} {a : cq_A} {v : Value} (h : cq_gs ρ as vs) (ha : cq_g ρ a v) (i : Nat) : cq_gs ρ (cq_set2 as i a) (am_set2 vs i v) := cq_gs_set (a := cq_u) trivial (i + 1) (cq_gs_set ha i (cq_kill_ok h i))
/-! outcomes -/
abbrev cq_O : Type := Nat × List cq_A × List cq_A × cq_S
section CQP
variable (m : cq_W) (h0 : am_H)
/-- at every valuation alike below the next symbol: store, places and stack -/
def cq_Rb (ρ : Nat → Int) (S : cq_S) (als ast : List cq_A) (ls st : List Value) (h : am_H) : Prop := ∀ ρ', cq_ag S.n ρ' ρ → cq_Md m h0 ρ' S h ∧ cq_gs ρ' als ls ∧ cq_gs ρ' ast st
def cq_RO (ρ : Nat → Int) (n : Nat) (o : cq_O) (r : Nat × List Value × List Value × am_H) : Prop := o.1 = r.1 ∧ n ≤ o.2.2.2.n ∧ ∃ ρ1, cq_ag n ρ1 ρ ∧ cq_Rb m h0 ρ1 o.2.2.2 o.2.1 o.2.2.1 r.2.1 r.2.2.1 r.2.2.2
def cq_Res (ρ : Nat → Int) (n : Nat) (out : List cq_O) (ar : am_R) : Prop := ∃ r, ar = some r ∧ ∃ o ∈ out, cq_RO m h0 ρ n o r
end CQP
section CQQ
variable {m : cq_W} {h0 : am_H} {ρ : Nat → Int} {S : cq_S} {als ast : List cq_A} {ls st : List Value} {h : am_H}
/-- one outcome at the same valuation -/
theorem cq_keep {n pc' : Nat} {als' ast' : List cq_A} {S' : cq_S} {ls' st' : List Value} {h' : am_H} (hn : S'.n = n) (k : ∀ ρ', cq_ag n ρ' ρ → cq_Md m h0 ρ' S' h' ∧ cq_gs ρ' als' ls' ∧ cq_gs ρ' ast' st') : cq_Res m h0 ρ n [(pc', als', ast', S')] (some (pc', ls', st', h')) :=
  ⟨_, rfl, _, List.mem_cons_self, rfl, Nat.le_of_eq hn.symm, ρ, cq_ag.rf, fun ρ' a => k ρ' (hn ▸ a)⟩
/-- a new symbol with bounds -/
def cq_S.fb (S : cq_S) (l u : Int) : cq_S := cq_mk (S.n + 1) ((S.n, l, u) :: S.P.1, S.P.2) S.N S.K S.W S.T S.L S.M S.U S.ac S.al
theorem cq_fb_ok {l u w : Int} (H : ∀ ρ', cq_ag S.n ρ' ρ → cq_Md m h0 ρ' S h) (h1 : l ≤ w) (h2 : w ≤ u) : ∀ ρ', cq_ag (S.n + 1) ρ' (cq_up ρ S.n w) → cq_Md m h0 ρ' (S.fb l u) h ∧ ρ' S.n = w := by
  intro ρ' a
  have e := cq_up_s a
  have D := H ρ' (cq_up_a a)
  exact ⟨⟨⟨D.P.1.cons (by rw [e]; exact h1) (by rw [e]; exact h2), D.P.2⟩, D.N, D.K, fun s hs => ⟨Nat.lt_succ_of_lt (D.W s hs).1, (D.W s hs).2⟩, D.2.2.2.2⟩, e⟩
/-- a value that is made, with the store after it -/
def cq_Mk (m : cq_W) (h0 : am_H) (ρ : Nat → Int) (S : cq_S) (h : am_H) (q : cq_A × cq_S) (v : Value) : Prop := S.n ≤ q.2.n ∧ ∃ ρ1, cq_ag S.n ρ1 ρ ∧ ∀ ρ', cq_ag q.2.n ρ' ρ1 → cq_Md m h0 ρ' q.2 h ∧ cq_g ρ' q.1 v
theorem cq_Mk.of {a : cq_A} {v : Value} (H : ∀ ρ', cq_ag S.n ρ' ρ → cq_Md m h0 ρ' S h ∧ cq_g ρ' a v) : cq_Mk m h0 ρ S h (a, S) v := ⟨Nat.le_refl _, ρ, cq_ag.rf, H⟩
theorem cq_Mk.res {q : cq_A × cq_S} {v : Value} {pc' : Nat} {r : List cq_A} {rs : List Value} (k : cq_Mk m h0 ρ S h q v) (H : ∀ ρ', cq_ag S.n ρ' ρ → cq_gs ρ' als ls ∧ cq_gs ρ' r rs) : cq_Res m h0 ρ S.n [(pc', als, q.1 :: r, q.2)] (some (pc', ls, v :: rs, h)) := by
  obtain ⟨hn, ρ1, a1, k⟩ := k
  refine ⟨_, rfl, _, List.mem_cons_self, rfl, hn, ρ1, a1, fun ρ' a => ?_⟩
  obtain ⟨D, g⟩ := k ρ' a
  obtain ⟨g1, g2⟩ := H ρ' ((a.lt hn).tr a1)
  exact ⟨D, g1, g, g2⟩
def cq_fi (S : cq_S) (l u : Int) : cq_A × cq_S := (cq_i (cq_s S.n), S.fb l u)
def cq_fl (S : cq_S) (l u : Int) : cq_A × cq_S := (cq_l (cq_s S.n), S.fb l u)
theorem cq_fi_ok {l u : Int} {x : Int32} (H : ∀ ρ', cq_ag S.n ρ' ρ → cq_Md m h0 ρ' S h) (h1 : l ≤ x.toInt) (h2 : x.toInt ≤ u) : cq_Mk m h0 ρ S h (cq_fi S l u) (.int x) := by
  refine ⟨Nat.le_succ _, cq_up ρ S.n x.toInt, cq_up_g, fun ρ' a => ?_⟩
  obtain ⟨D, e⟩ := cq_fb_ok H h1 h2 ρ' a
  exact ⟨D, x, rfl, by rw [cq_s_e, e]⟩
theorem cq_fl_ok {l u : Int} {x : Int64} (H : ∀ ρ', cq_ag S.n ρ' ρ → cq_Md m h0 ρ' S h) (h1 : l ≤ x.toInt) (h2 : x.toInt ≤ u) : cq_Mk m h0 ρ S h (cq_fl S l u) (.long x) := by
  refine ⟨Nat.le_succ _, cq_up ρ S.n x.toInt, cq_up_g, fun ρ' a => ?_⟩
  obtain ⟨D, e⟩ := cq_fb_ok H h1 h2 ρ' a
  exact ⟨D, x, rfl, by rw [cq_s_e, e]⟩
def cq_any (S : cq_S) : cq_A × cq_S := cq_fi S (-2147483648) 2147483647
def cq_anl (S : cq_S) : cq_A × cq_S := cq_fl S (-9223372036854775808) 9223372036854775807
theorem cq_any_ok {x : Int32} (H : ∀ ρ', cq_ag S.n ρ' ρ → cq_Md m h0 ρ' S h) : cq_Mk m h0 ρ S h (cq_any S) (.int x) := cq_fi_ok H x.le_toInt (by have := x.toInt_lt; omega)
theorem cq_anl_ok {x : Int64} (H : ∀ ρ', cq_ag S.n ρ' ρ → cq_Md m h0 ρ' S h) : cq_Mk m h0 ρ S h (cq_anl S) (.long x) := cq_fl_ok H x.le_toInt (by have := x.toInt_lt; omega)
def cq_rg (S : cq_S) (f : cq_F) : Bool := cq_in S.P f (-2147483648) 2147483647
def cq_rl (S : cq_S) (f : cq_F) : Bool := cq_in S.P f (-9223372036854775808) 9223372036854775807
/-- an int that is a form, if that is in range -/
def cq_ai (S : cq_S) (f : cq_F) : cq_A × cq_S := bif cq_rg S f then (cq_i f, S) else cq_any S
def cq_al (S : cq_S) (f : cq_F) : cq_A × cq_S := bif cq_rl S f then (cq_l f, S) else cq_anl S
theorem cq_ai_ok {f : cq_F} {x : Int32} (H : ∀ ρ', cq_ag S.n ρ' ρ → cq_Md m h0 ρ' S h ∧ x.toInt = (cq_e ρ' f).bmod (2 ^ 32)) : cq_Mk m h0 ρ S h (cq_ai S f) (.int x) := by
  unfold cq_ai
  cases hr : cq_rg S f with
  | true =>
    refine cq_Mk.of fun ρ' a => ?_
    obtain ⟨D, e⟩ := H ρ' a
    obtain ⟨b1, b2⟩ := cq_in_ok D.P hr
    refine ⟨D, x, rfl, ?_⟩
    rw [e]
    exact Int.bmod_eq_of_le (by omega) (by omega)
  | false => exact cq_any_ok fun ρ' a => (H ρ' a).1
theorem cq_al_ok {f : cq_F} {x : Int64} (H : ∀ ρ', cq_ag S.n ρ' ρ → cq_Md m h0 ρ' S h ∧ x.toInt = (cq_e ρ' f).bmod (2 ^ 64)) : cq_Mk m h0 ρ S h (cq_al S f) (.long x) := by
  unfold cq_al
  cases hr : cq_rl S f with
  | true =>
    refine cq_Mk.of fun ρ' a => ?_
    obtain ⟨D, e⟩ := H ρ' a
    obtain ⟨b1, b2⟩ := cq_in_ok D.P hr
    refine ⟨D, x, rfl, ?_⟩
    rw [e]
    exact Int.bmod_eq_of_le (by omega) (by omega)
  | false => exact cq_anl_ok fun ρ' a => (H ρ' a).1
end CQQ
end
section
/-! THE CHECKER, 5: arithmetic -/
section CQA
variable {m : cq_W} {h0 : am_H} {ρ : Nat → Int} {S : cq_S} {h : am_H}
theorem cq_and_nn {x y : Int32} (hx : 0 ≤ x.toInt) : 0 ≤ (x &&& y).toInt ∧ (x &&& y).toInt ≤ x.toInt := by
  have e0 : ∀ z : Int32, z.toInt = z.toBitVec.toInt := fun _ => rfl
  have ex : x.toBitVec.msb = false := by
    rw [BitVec.msb_eq_toInt]
    have := e0 x
    exact decide_eq_false (by omega)
  have ea : (x &&& y).toBitVec = x.toBitVec &&& y.toBitVec := rfl
  have em : (x.toBitVec &&& y.toBitVec).msb = false := by rw [BitVec.msb_and, ex, Bool.false_and]
  have e1 : (x &&& y).toInt = ((x.toBitVec &&& y.toBitVec).toNat : Int) := by
    rw [e0, ea]
    exact BitVec.toInt_eq_toNat_of_msb em
  have e2 : x.toInt = (x.toBitVec.toNat : Int) := by
    rw [e0]
    exact BitVec.toInt_eq_toNat_of_msb ex
  rw [e1, e2, BitVec.toNat_and]
  have := Nat.and_le_left (n := x.toBitVec.toNat) (m := y.toBitVec.toNat)
  omega
theorem cq_and_cm (x y : Int32) : x &&& y = y &&& x := by
  apply Int32.toBitVec.inj
  show x.toBitVec &&& y.toBitVec = y.toBitVec &&& x.toBitVec
  exact BitVec.and_comm _ _
/-- a product: one side is known -/
def cq_mu (f g : cq_F) : Option cq_F := bif cq_k g then some (cq_sc g.1 f) else bif cq_k f then some (cq_sc f.1 g) else none
theorem cq_mu_ok {f g p : cq_F} (e : cq_mu f g = some p) (ρ : Nat → Int) : cq_e ρ p = cq_e ρ f * cq_e ρ g := by
  unfold cq_mu at e
  cases h1 : cq_k g with
  | true =>
    rw [h1] at e
    rw [← Option.some.inj e, cq_sc_e, cq_k_e h1, Int.mul_comm]
  | false =>
    rw [h1] at e
    cases h2 : cq_k f with
    | true =>
      rw [h2] at e
      rw [← Option.some.inj e, cq_sc_e, cq_k_e h2]
    | false => rw [h2] at e; cases e
/-- the greatest that a form can be -/
def cq_hi (B : cq_B) (f : cq_F) : Option Int := match cq_lo B (cq_neg f) with
  | some w => some (- w)
  | none => none
theorem cq_hi_ok {ρ : Nat → Int} {B : cq_B} (hB : cq_bOk ρ B) {f : cq_F} {u : Int} (h : cq_hi B f = some u) : cq_e ρ f ≤ u := by
  unfold cq_hi at h
  cases hl : cq_lo B (cq_neg f) with
  | none => rw [hl] at h; cases h
  | some w =>
    rw [hl] at h
    have := cq_lo_ok hB hl
    rw [cq_neg_e] at this
    have := Option.some.inj h
    omega
def cq_feq : List (Nat × Int) → List (Nat × Int) → Bool
  | [], [] => true
  | a :: r, b :: t => Nat.beq a.1 b.1 && cq_ieq a.2 b.2 && cq_feq r t
  | _, _ => false
theorem cq_feq_ok : ∀ {a b : List (Nat × Int)}, cq_feq a b = true → a = b
  | [], [], _ => rfl
  | [], _ :: _, h => by cases h
  | _ :: _, [], h => by cases h
  | (a1, a2) :: r, (b1, b2) :: t, h => by
    unfold cq_feq at h
    have h1 := (Bool.and_eq_true _ _ ▸ h)
    have h2 := (Bool.and_eq_true _ _ ▸ h1.1)
    have e1 := am_beq h2.1
    have e2 := cq_z_eq h2.2
    have e3 := cq_feq_ok h1.2
    dsimp only at e1 e2
    rw [e1, e3, show a2 = b2 by omega]
def cq_fe (f g : cq_F) : Bool := cq_ieq f.1 g.1 && cq_feq f.2 g.2
theorem cq_fe_ok {f g : cq_F} (h : cq_fe f g = true) : f = g := by
  have h1 := (Bool.and_eq_true _ _ ▸ h)
  have e1 := cq_z_eq h1.1
  have e2 := cq_feq_ok h1.2
  obtain ⟨a, b⟩ := f
  obtain ⟨c, d⟩ := g
  dsimp only at e1 e2
  rw [e2, show a = c by omega]
def cq_fm (f g : cq_F) : List (cq_F × cq_F × cq_F) → Option cq_F
  | [] => none
  | q :: r => bif cq_fe q.1 f && cq_fe q.2.1 g then some q.2.2 else cq_fm f g r
theorem cq_fm_ok {f g r : cq_F} : ∀ {M : List (cq_F × cq_F × cq_F)}, cq_fm f g M = some r → (f, g, r) ∈ M
  | [], h => by cases h
  | q :: M, h => by
    unfold cq_fm at h
    cases hb : cq_fe q.1 f && cq_fe q.2.1 g with
    | true =>
      rw [hb] at h
      have h1 := (Bool.and_eq_true _ _ ▸ hb)
      have e1 := cq_fe_ok h1.1
      have e2 := cq_fe_ok h1.2
      have e3 := Option.some.inj h
      rw [← e1, ← e2, ← e3]
      exact List.mem_cons_self
    | false =>
      rw [hb] at h
      exact List.mem_cons_of_mem _ (cq_fm_ok h)
def cq_S.aM (S : cq_S) (q : cq_F × cq_F × cq_F) : cq_S := cq_mk S.n S.P S.N S.K S.W S.T S.L (q :: S.M) S.U S.ac S.al
/-- an and -/
def cq_an (S : cq_S) (f g : cq_F) : cq_A × cq_S := match cq_fm f g S.M with
  | some r => (cq_i r, S)
  | none => (match (bif cq_nn S.P.1 f then cq_hi S.P.1 f else none), (bif cq_nn S.P.1 g then cq_hi S.P.1 g else none) with
    | some u, some w => (cq_i (cq_s S.n), (S.fb 0 (bif cq_p (w - u) then u else w)).aM (f, g, cq_s S.n))
    | some u, none => (cq_i (cq_s S.n), (S.fb 0 u).aM (f, g, cq_s S.n))
    | none, some w => (cq_i (cq_s S.n), (S.fb 0 w).aM (f, g, cq_s S.n))
    | none, none => (cq_i (cq_s S.n), (S.fb (-2147483648) 2147483647).aM (f, g, cq_s S.n)))
theorem cq_an_mk {f g : cq_F} {x y : Int32} {l u : Int} (H : ∀ ρ', cq_ag S.n ρ' ρ → cq_Md m h0 ρ' S h ∧ x.toInt = cq_e ρ' f ∧ y.toInt = cq_e ρ' g) (h1 : l ≤ (x &&& y).toInt) (h2 : (x &&& y).toInt ≤ u) : cq_Mk m h0 ρ S h (cq_i (cq_s S.n), (S.fb l u).aM (f, g, cq_s S.n)) (.int (x &&& y)) := by
  refine ⟨Nat.le_succ _, cq_up ρ S.n (x &&& y).toInt, cq_up_g, fun ρ' a => ?_⟩
  obtain ⟨D, e⟩ := cq_fb_ok (fun ρ' a => (H ρ' a).1) h1 h2 ρ' a
  obtain ⟨-, ex, ey⟩ := H ρ' (cq_up_a a)
  refine ⟨⟨D.1, D.2.1, D.2.2.1, D.2.2.2.1, D.2.2.2.2.1, D.2.2.2.2.2.1, ?_, D.2.2.2.2.2.2.2⟩, _, rfl, by rw [cq_s_e, e]⟩
  intro q hq
  rcases List.mem_cons.1 hq with r | r
  · subst r
    refine ⟨fun x' y' e1 e2 => ?_, fun k ek => ?_⟩
    · dsimp only at e1 e2 ⊢
      rw [← ex] at e1
      rw [← ey] at e2
      rw [Int32.toInt_inj.1 e1, Int32.toInt_inj.1 e2, cq_s_e, e]
    · exfalso
      dsimp only at ek
      rw [ek] at ey
      have b2 := y.toInt_lt
      have e3 : cq_e ρ' (((1000000000000 : Int) + (k : Int), []) : cq_F) = 1000000000000 + (k : Int) := by simp [cq_e, cq_eT]
      rw [e3] at ey
      omega
  · exact D.M q r
theorem cq_an_ok {f g : cq_F} {x y : Int32} (H : ∀ ρ', cq_ag S.n ρ' ρ → cq_Md m h0 ρ' S h ∧ x.toInt = cq_e ρ' f ∧ y.toInt = cq_e ρ' g) : cq_Mk m h0 ρ S h (cq_an S f g) (.int (x &&& y)) := by
  unfold cq_an
  cases hm : cq_fm f g S.M with
  | some r =>
    refine cq_Mk.of fun ρ' a => ?_
    obtain ⟨D, ex, ey⟩ := H ρ' a
    exact ⟨D, _, rfl, (D.M _ (cq_fm_ok hm)).1 x y ex ey⟩
  | none =>
    dsimp only
    obtain ⟨D, ex, ey⟩ := H ρ cq_ag.rf
    have k1 : ∀ u, (bif cq_nn S.P.1 f then cq_hi S.P.1 f else none) = some u → 0 ≤ (x &&& y).toInt ∧ (x &&& y).toInt ≤ u := fun u e => by
      cases hn : cq_nn S.P.1 f with
      | false => rw [hn] at e; cases e
      | true =>
        rw [hn] at e
        have := cq_nn_ok D.P.1 hn
        have := cq_hi_ok D.P.1 e
        have := cq_and_nn (x := x) (y := y) (by omega)
        omega
    have k2 : ∀ u, (bif cq_nn S.P.1 g then cq_hi S.P.1 g else none) = some u → 0 ≤ (x &&& y).toInt ∧ (x &&& y).toInt ≤ u := fun u e => by
      cases hn : cq_nn S.P.1 g with
      | false => rw [hn] at e; cases e
      | true =>
        rw [hn] at e
        have := cq_nn_ok D.P.1 hn
        have := cq_hi_ok D.P.1 e
        have := cq_and_nn (x := y) (y := x) (by omega)
        rw [cq_and_cm] at this
        omega
    cases e1 : (bif cq_nn S.P.1 f then cq_hi S.P.1 f else none) with
    | some u =>
      have b1 := k1 u e1
      cases e2 : (bif cq_nn S.P.1 g then cq_hi S.P.1 g else none) with
      | some w =>
        have b2 := k2 w e2
        refine cq_an_mk H b1.1 ?_
        cases cq_p (w - u) with
        | true => exact b1.2
        | false => exact b2.2
      | none => exact cq_an_mk H b1.1 b1.2
    | none =>
      cases e2 : (bif cq_nn S.P.1 g then cq_hi S.P.1 g else none) with
      | some w =>
        have b2 := k2 w e2
        exact cq_an_mk H b2.1 b2.2
      | none => exact cq_an_mk H (x &&& y).le_toInt (by have := (x &&& y).toInt_lt; omega)
theorem cq_sh1 : ∀ k : Nat, k < 31 → ((1 : Int32) <<< ((Int32.ofNat k) &&& 31)).toInt = 2 ^ k := by decide +kernel
/-- a shift of 1 -/
def cq_sl (S : cq_S) (f g : cq_F) : cq_A × cq_S := bif cq_k f && cq_ieq f.1 1 && cq_nn S.P.1 g then (match cq_hi S.P.1 g with
    | some u => bif cq_p (30 - u) then cq_fi S 1 (2 ^ u.toNat) else cq_any S
    | none => cq_any S) else cq_any S
theorem cq_sl_ok {f g : cq_F} {x y : Int32} (H : ∀ ρ', cq_ag S.n ρ' ρ → cq_Md m h0 ρ' S h ∧ x.toInt = cq_e ρ' f ∧ y.toInt = cq_e ρ' g) : cq_Mk m h0 ρ S h (cq_sl S f g) (.int (x <<< (y &&& 31))) := by
  have H1 : ∀ ρ', cq_ag S.n ρ' ρ → cq_Md m h0 ρ' S h := fun ρ' a => (H ρ' a).1
  unfold cq_sl
  cases hb : cq_k f && cq_ieq f.1 1 && cq_nn S.P.1 g with
  | false => exact cq_any_ok H1
  | true =>
    have q1 := (Bool.and_eq_true _ _ ▸ hb)
    have q2 := (Bool.and_eq_true _ _ ▸ q1.1)
    obtain ⟨D, ex, ey⟩ := H ρ cq_ag.rf
    rw [cq_k_e q2.1] at ex
    have e1 := cq_z_eq q2.2
    have g0 := cq_nn_ok D.P.1 q1.2
    simp only [cond_true]
    cases hu : cq_hi S.P.1 g with
    | none => exact cq_any_ok H1
    | some u =>
      dsimp only
      cases hp : cq_p (30 - u) with
      | false => exact cq_any_ok H1
      | true =>
        have hu1 := cq_p_le hp
        have hu2 := cq_hi_ok D.P.1 hu
        have x1 : x = 1 := Int32.toInt_inj.1 (by rw [ex]; show f.1 = 1; omega)
        have y1 : y = Int32.ofNat y.toInt.toNat := Int32.toInt_inj.1 (by rw [Int32.toInt_ofNat_of_lt (by omega)]; omega)
        have hy : y.toInt.toNat < 31 := by omega
        have e : (x <<< (y &&& 31)).toInt = 2 ^ y.toInt.toNat := by
          have k := cq_sh1 _ hy
          rw [← y1] at k
          rw [x1]
          exact k
        have e2 : (2 : Int) ^ y.toInt.toNat ≤ 2 ^ u.toNat := by
          have := Nat.pow_le_pow_right (n := 2) (by decide) (show y.toInt.toNat ≤ u.toNat by omega)
          exact_mod_cast this
        have e3 : (1 : Int) ≤ 2 ^ y.toInt.toNat := by
          have := Nat.one_le_two_pow (n := y.toInt.toNat)
          exact_mod_cast this
        exact cq_fi_ok H1 (by rw [e]; exact e3) (by rw [e]; exact e2)
end CQA
end
section
/-! THE CHECKER, 6: jumps -/
def cq_opt (o : Option cq_P) (pc : Nat) (ls st : List cq_A) (S : cq_S) : List cq_O := match o with
  | some P => [(pc, ls, st, S.sP P)]
  | none => []
def cq_br (c : Jvm.ClassFile.Cond) (f : cq_F) (tp fp : Nat) (ls r : List cq_A) (S : cq_S) : List cq_O := match c with
  | .eq => cq_opt (cq_aeq S.P f) tp ls r S ++ cq_opt (cq_ane S.P f) fp ls r S
  | .ne => cq_opt (cq_ane S.P f) tp ls r S ++ cq_opt (cq_aeq S.P f) fp ls r S
  | .lt => cq_opt (cq_asm S.P (cq_ac (cq_neg f) (-1))) tp ls r S ++ cq_opt (cq_asm S.P f) fp ls r S
  | .ge => cq_opt (cq_asm S.P f) tp ls r S ++ cq_opt (cq_asm S.P (cq_ac (cq_neg f) (-1))) fp ls r S
  | .gt => cq_opt (cq_asm S.P (cq_ac f (-1))) tp ls r S ++ cq_opt (cq_asm S.P (cq_neg f)) fp ls r S
  | .le => cq_opt (cq_asm S.P (cq_neg f)) tp ls r S ++ cq_opt (cq_asm S.P (cq_ac f (-1))) fp ls r S
def cq_cd (c : Jvm.ClassFile.Cond) (w : Int) : Prop := match c with
  | .eq => w = 0
  | .ne => w ≠ 0
  | .lt => w < 0
  | .ge => 0 ≤ w
  | .gt => 0 < w
  | .le => w ≤ 0
section CQJ
variable {m : cq_W} {h0 : am_H} {ρ : Nat → Int} {S : cq_S} {als r : List cq_A} {ls rs : List Value} {h : am_H}
theorem cq_opt_ok {o : Option cq_P} {pc : Nat} {out : List cq_O} (H : ∀ ρ', cq_ag S.n ρ' ρ → cq_Md m h0 ρ' S h ∧ cq_gs ρ' als ls ∧ cq_gs ρ' r rs) (K : ∀ ρ', cq_ag S.n ρ' ρ → ∃ P', o = some P' ∧ cq_pOk ρ' P') (hi : ∀ x ∈ cq_opt o pc als r S, x ∈ out) : cq_Res m h0 ρ S.n out (some (pc, ls, rs, h)) := by
  obtain ⟨P', e, -⟩ := K ρ cq_ag.rf
  subst e
  refine ⟨_, rfl, _, hi _ List.mem_cons_self, rfl, Nat.le_refl _, ρ, cq_ag.rf, fun ρ' a => ?_⟩
  obtain ⟨D, g1, g2⟩ := H ρ' a
  obtain ⟨P2, e2, hP⟩ := K ρ' a
  rw [← Option.some.inj e2] at hP
  exact ⟨D.sP hP, g1, g2⟩
theorem cq_br_t {c : Jvm.ClassFile.Cond} {f : cq_F} {w : Int} {tp fp : Nat} (H : ∀ ρ', cq_ag S.n ρ' ρ → cq_Md m h0 ρ' S h ∧ cq_gs ρ' als ls ∧ cq_gs ρ' r rs) (K : ∀ ρ', cq_ag S.n ρ' ρ → (w < 0 ↔ cq_e ρ' f < 0) ∧ (w = 0 ↔ cq_e ρ' f = 0)) (hw : cq_cd c w) : cq_Res m h0 ρ S.n (cq_br c f tp fp als r S) (some (tp, ls, rs, h)) := by
  cases c with
  | eq =>
    have hw : w = 0 := hw
    exact cq_opt_ok H (fun ρ' a => cq_aeq_ok (H ρ' a).1.P (by have := K ρ' a; omega)) (fun x hx => List.mem_append_left _ hx)
  | ne =>
    have hw : w ≠ 0 := hw
    exact cq_opt_ok H (fun ρ' a => cq_ane_ok (H ρ' a).1.P (by have := K ρ' a; omega)) (fun x hx => List.mem_append_left _ hx)
  | lt =>
    have hw : w < 0 := hw
    exact cq_opt_ok H (fun ρ' a => cq_asm_ok (H ρ' a).1.P (by have := K ρ' a; rw [cq_ac_e, cq_neg_e]; omega)) (fun x hx => List.mem_append_left _ hx)
  | ge =>
    have hw : 0 ≤ w := hw
    exact cq_opt_ok H (fun ρ' a => cq_asm_ok (H ρ' a).1.P (by have := K ρ' a; omega)) (fun x hx => List.mem_append_left _ hx)
  | gt =>
    have hw : 0 < w := hw
    exact cq_opt_ok H (fun ρ' a => cq_asm_ok (H ρ' a).1.P (by have := K ρ' a; rw [cq_ac_e]; omega)) (fun x hx => List.mem_append_left _ hx)
  | le =>
    have hw : w ≤ 0 := hw
    exact cq_opt_ok H (fun ρ' a => cq_asm_ok (H ρ' a).1.P (by have := K ρ' a; rw [cq_neg_e]; omega)) (fun x hx => List.mem_append_left _ hx)
theorem cq_br_f {c : Jvm.ClassFile.Cond} {f : cq_F} {w : Int} {tp fp : Nat} (H : ∀ ρ', cq_ag S.n ρ' ρ → cq_Md m h0 ρ' S h ∧ cq_gs ρ' als ls ∧ cq_gs ρ' r rs) (K : ∀ ρ', cq_ag S.n ρ' ρ → (w < 0 ↔ cq_e ρ' f < 0) ∧ (w = 0 ↔ cq_e ρ' f = 0)) (hw : ¬ cq_cd c w) : cq_Res m h0 ρ S.n (cq_br c f tp fp als r S) (some (fp, ls, rs, h)) := by
  cases c with
  | eq =>
    have hw : ¬ w = 0 := hw
    exact cq_opt_ok H (fun ρ' a => cq_ane_ok (H ρ' a).1.P (by have := K ρ' a; omega)) (fun x hx => List.mem_append_right _ hx)
  | ne =>
    have hw : ¬ w ≠ 0 := hw
    exact cq_opt_ok H (fun ρ' a => cq_aeq_ok (H ρ' a).1.P (by have := K ρ' a; omega)) (fun x hx => List.mem_append_right _ hx)
  | lt =>
    have hw : ¬ w < 0 := hw
    exact cq_opt_ok H (fun ρ' a => cq_asm_ok (H ρ' a).1.P (by have := K ρ' a; omega)) (fun x hx => List.mem_append_right _ hx)
  | ge =>
    have hw : ¬ 0 ≤ w := hw
    exact cq_opt_ok H (fun ρ' a => cq_asm_ok (H ρ' a).1.P (by have := K ρ' a; rw [cq_ac_e, cq_neg_e]; omega)) (fun x hx => List.mem_append_right _ hx)
  | gt =>
    have hw : ¬ 0 < w := hw
    exact cq_opt_ok H (fun ρ' a => cq_asm_ok (H ρ' a).1.P (by have := K ρ' a; rw [cq_neg_e]; omega)) (fun x hx => List.mem_append_right _ hx)
  | le =>
    have hw : ¬ w ≤ 0 := hw
    exact cq_opt_ok H (fun ρ' a => cq_asm_ok (H ρ' a).1.P (by have := K ρ' a; rw [cq_ac_e]; omega)) (fun x hx => List.mem_append_right _ hx)
end CQJ
/-- a jump of an int against 0 (or of a comparison's sign) and of two ints -/
def cq_j1 (c : Jvm.ClassFile.Cond) (tp fp : Nat) (ls st : List cq_A) (S : cq_S) : Option (List cq_O) := match st with
  | (t, f, _) :: r => bif Nat.beq t 1 || Nat.beq t 3 then some (cq_br c f tp fp ls r S) else none
  | _ => none
def cq_j2 (c : Jvm.ClassFile.Cond) (tp fp : Nat) (ls st : List cq_A) (S : cq_S) : Option (List cq_O) := match st with
  | (1, g, _) :: (1, f, _) :: r => some (cq_br c (cq_sub f g) tp fp ls r S)
  | _ => none
section CQK
variable {m : cq_W} {h0 : am_H} {ρ : Nat → Int} {S : cq_S} {als ast : List cq_A} {ls st : List Value} {h : am_H} {out : List cq_O}
theorem cq_gs_cons {ρ : Nat → Int} {a : cq_A} {as : List cq_A} : ∀ {vs : List Value}, cq_gs ρ (a :: as) vs → ∃ v r, vs = v :: r ∧ cq_g ρ a v ∧ cq_gs ρ as r
  | [], h => h.elim
  | v :: r, h => ⟨v, r, rfl, h.1, h.2⟩
/-- the top of a stack -/
theorem cq_pop1 {a : cq_A} {r : List cq_A} (H : cq_Rb m h0 ρ S als (a :: r) ls st h) : ∃ v rs, st = v :: rs ∧ (∀ ρ', cq_ag S.n ρ' ρ → cq_g ρ' a v) ∧ cq_Rb m h0 ρ S als r ls rs h := by
  obtain ⟨v, rs, e, -, -⟩ := cq_gs_cons (H ρ cq_ag.rf).2.2
  subst e
  exact ⟨v, rs, rfl, fun ρ' a => (H ρ' a).2.2.1, fun ρ' a => ⟨(H ρ' a).1, (H ρ' a).2.1, (H ρ' a).2.2.2⟩⟩
theorem cq_int {f : cq_F} {k : Nat} {v : Value} (K : ∀ ρ', cq_ag S.n ρ' ρ → cq_g ρ' (1, f, k) v) : ∃ x : Int32, v = .int x ∧ ∀ ρ', cq_ag S.n ρ' ρ → x.toInt = cq_e ρ' f := by
  obtain ⟨x, e, -⟩ := K ρ cq_ag.rf
  subst e
  refine ⟨x, rfl, fun ρ' a => ?_⟩
  obtain ⟨y, e, hy⟩ := K ρ' a
  cases e
  exact hy
theorem cq_lng {f : cq_F} {k : Nat} {v : Value} (K : ∀ ρ', cq_ag S.n ρ' ρ → cq_g ρ' (2, f, k) v) : ∃ x : Int64, v = .long x ∧ ∀ ρ', cq_ag S.n ρ' ρ → x.toInt = cq_e ρ' f := by
  obtain ⟨x, e, -⟩ := K ρ cq_ag.rf
  subst e
  refine ⟨x, rfl, fun ρ' a => ?_⟩
  obtain ⟨y, e, hy⟩ := K ρ' a
  cases e
  exact hy
theorem cq_sgn {t : Nat} {f : cq_F} {k : Nat} {v : Value} (ht : (Nat.beq t 1 || Nat.beq t 3) = true) (K : ∀ ρ', cq_ag S.n ρ' ρ → cq_g ρ' (t, f, k) v) : ∃ x : Int32, v = .int x ∧ ∀ ρ', cq_ag S.n ρ' ρ → (x.toInt < 0 ↔ cq_e ρ' f < 0) ∧ (x.toInt = 0 ↔ cq_e ρ' f = 0) := by
  rcases Bool.or_eq_true _ _ ▸ ht with q | q
  · have e := am_beq q
    subst e
    obtain ⟨x, e, hx⟩ := cq_int K
    exact ⟨x, e, fun ρ' a => by rw [hx ρ' a]; exact ⟨Iff.rfl, Iff.rfl⟩⟩
  · have e := am_beq q
    subst e
    obtain ⟨x, e, -⟩ := K ρ cq_ag.rf
    subst e
    refine ⟨x, rfl, fun ρ' a => ?_⟩
    obtain ⟨y, e, hy⟩ := K ρ' a
    cases e
    exact hy
theorem cq_i0 : (0 : Int32).toInt = 0 := rfl
theorem cq_j1_ok {e : am_E} {c : Jvm.ClassFile.Cond} {o : Int} {pc : Nat} (he : e.1 = .ifCond c o) (H : cq_Rb m h0 ρ S als ast ls st h) (q : cq_j1 c e.2.2.1.toNat (pc + 3) als ast S = some out) : cq_Res m h0 ρ S.n out (am_st e pc ls st h) := by
  unfold cq_j1 at q
  split at q
  · rename_i t f k r
    cases ht : Nat.beq t 1 || Nat.beq t 3 with
    | false => rw [ht] at q; cases q
    | true =>
      rw [ht] at q
      have q := Option.some.inj q
      subst q
      obtain ⟨v, rs, e1, K, H2⟩ := cq_pop1 H
      subst e1
      obtain ⟨x, e2, hx⟩ := cq_sgn ht K
      subst e2
      simp only [am_st, he]
      have l0 : x < 0 ↔ x.toInt < 0 := by rw [Int32.lt_iff_toInt_lt, cq_i0]
      have l1 : 0 ≤ x ↔ 0 ≤ x.toInt := by rw [Int32.le_iff_toInt_le, cq_i0]
      have l2 : 0 < x ↔ 0 < x.toInt := by rw [Int32.lt_iff_toInt_lt, cq_i0]
      have l3 : x ≤ 0 ↔ x.toInt ≤ 0 := by rw [Int32.le_iff_toInt_le, cq_i0]
      have l4 : x = 0 ↔ x.toInt = 0 := by rw [← Int32.toInt_inj, cq_i0]
      cases c with
      | eq =>
        dsimp only
        by_cases hc : x = 0
        · rw [if_pos hc]; exact cq_br_t H2 hx (l4.1 hc)
        · rw [if_neg hc]; exact cq_br_f H2 hx (fun z => hc (l4.2 z))
      | ne =>
        dsimp only
        by_cases hc : x = 0
        · rw [if_pos hc]; exact cq_br_f H2 hx (fun z => z (l4.1 hc))
        · rw [if_neg hc]; exact cq_br_t H2 hx (fun z => hc (l4.2 z))
      | lt =>
        dsimp only
        by_cases hc : x < 0
        · rw [if_pos hc]; exact cq_br_t H2 hx (l0.1 hc)
        · rw [if_neg hc]; exact cq_br_f H2 hx (fun z => hc (l0.2 z))
      | ge =>
        dsimp only
        by_cases hc : 0 ≤ x
        · rw [if_pos hc]; exact cq_br_t H2 hx (l1.1 hc)
        · rw [if_neg hc]; exact cq_br_f H2 hx (fun z => hc (l1.2 z))
      | gt =>
        dsimp only
        by_cases hc : 0 < x
        · rw [if_pos hc]; exact cq_br_t H2 hx (l2.1 hc)
        · rw [if_neg hc]; exact cq_br_f H2 hx (fun z => hc (l2.2 z))
      | le =>
        dsimp only
        by_cases hc : x ≤ 0
        · rw [if_pos hc]; exact cq_br_t H2 hx (l3.1 hc)
        · rw [if_neg hc]; exact cq_br_f H2 hx (fun z => hc (l3.2 z))
  · cases q
theorem cq_j2_ok {e : am_E} {c : Jvm.ClassFile.Cond} {o : Int} {pc : Nat} (he : e.1 = .if_icmp c o) (H : cq_Rb m h0 ρ S als ast ls st h) (q : cq_j2 c e.2.2.1.toNat (pc + 3) als ast S = some out) : cq_Res m h0 ρ S.n out (am_st e pc ls st h) := by
  unfold cq_j2 at q
  split at q
  · rename_i g k1 f k2 r
    have q := Option.some.inj q
    subst q
    obtain ⟨v, rs, e1, K1, H1⟩ := cq_pop1 H
    subst e1
    obtain ⟨y, e2, hy⟩ := cq_int K1
    subst e2
    obtain ⟨v, rs, e1, K2, H2⟩ := cq_pop1 H1
    subst e1
    obtain ⟨x, e2, hx0⟩ := cq_int K2
    subst e2
    simp only [am_st, he]
    have hx : ∀ ρ', cq_ag S.n ρ' ρ → (x.toInt - y.toInt < 0 ↔ cq_e ρ' (cq_sub f g) < 0) ∧ (x.toInt - y.toInt = 0 ↔ cq_e ρ' (cq_sub f g) = 0) := fun ρ' a => by
      rw [hx0 ρ' a, hy ρ' a, cq_sub_e]
      exact ⟨Iff.rfl, Iff.rfl⟩
    have l0 : x < y ↔ x.toInt - y.toInt < 0 := by rw [Int32.lt_iff_toInt_lt]; omega
    have l1 : y ≤ x ↔ 0 ≤ x.toInt - y.toInt := by rw [Int32.le_iff_toInt_le]; omega
    have l2 : y < x ↔ 0 < x.toInt - y.toInt := by rw [Int32.lt_iff_toInt_lt]; omega
    have l3 : x ≤ y ↔ x.toInt - y.toInt ≤ 0 := by rw [Int32.le_iff_toInt_le]; omega
    have l4 : x = y ↔ x.toInt - y.toInt = 0 := by rw [← Int32.toInt_inj]; omega
    cases c with
    | eq =>
      dsimp only
      by_cases hc : x = y
      · rw [if_pos hc]; exact cq_br_t H2 hx (l4.1 hc)
      · rw [if_neg hc]; exact cq_br_f H2 hx (fun z => hc (l4.2 z))
    | ne =>
      dsimp only
      by_cases hc : x = y
      · rw [if_pos hc]; exact cq_br_f H2 hx (fun z => z (l4.1 hc))
      · rw [if_neg hc]; exact cq_br_t H2 hx (fun z => hc (l4.2 z))
    | lt =>
      dsimp only
      by_cases hc : x < y
      · rw [if_pos hc]; exact cq_br_t H2 hx (l0.1 hc)
      · rw [if_neg hc]; exact cq_br_f H2 hx (fun z => hc (l0.2 z))
    | ge =>
      dsimp only
      by_cases hc : y ≤ x
      · rw [if_pos hc]; exact cq_br_t H2 hx (l1.1 hc)
      · rw [if_neg hc]; exact cq_br_f H2 hx (fun z => hc (l1.2 z))
    | gt =>
      dsimp only
      by_cases hc : y < x
      · rw [if_pos hc]; exact cq_br_t H2 hx (l2.1 hc)
      · rw [if_neg hc]; exact cq_br_f H2 hx (fun z => hc (l2.2 z))
    | le =>
      dsimp only
      by_cases hc : x ≤ y
      · rw [if_pos hc]; exact cq_br_t H2 hx (l3.1 hc)
      · rw [if_neg hc]; exact cq_br_f H2 hx (fun z => hc (l3.2 z))
  · cases q
end CQK
end
section
/-! THE CHECKER, 7: steps that leave the heap alone -/
def cq_nl (s : Nat) : List (Nat × Bool) → Option Bool
  | [] => none
  | q :: r => bif Nat.beq q.1 s then some q.2 else cq_nl s r
theorem cq_nl_ok {s : Nat} {b : Bool} : ∀ {N : List (Nat × Bool)}, cq_nl s N = some b → (s, b) ∈ N
  | [], h => by cases h
  | q :: r, h => by
    unfold cq_nl at h
    cases hb : Nat.beq q.1 s with
    | true =>
      rw [hb] at h
      rw [← am_beq hb, ← Option.some.inj h]
      exact List.mem_cons_self
    | false =>
      rw [hb] at h
      exact List.mem_cons_of_mem _ (cq_nl_ok h)
/-- a jump on null: np where it is null, rp where it is not -/
def cq_j3 (np rp : Nat) (ls st : List cq_A) (S : cq_S) : Option (List cq_O) := match st with
  | (4, _, _) :: r => some [(np, ls, r, S)]
  | (5, _, _) :: r => some [(rp, ls, r, S)]
  | (6, _, s) :: r => (match cq_nl s S.N with
    | some true => some [(rp, ls, r, S)]
    | some false => some [(np, ls, r, S)]
    | none => some [(np, ls, r, S.sN ((s, false) :: S.N)), (rp, ls, r, S.sN ((s, true) :: S.N))])
  | _ => none
def cq_swL (f : cq_F) (pc : Nat) (ls r : List cq_A) (S : cq_S) : Int → List Int → List cq_O
  | _, [] => []
  | k, o :: os => cq_opt (cq_aeq S.P (cq_ac f (- k))) ((pc : Int) + o).toNat ls r S ++ cq_swL f pc ls r S (k + 1) os
def cq_sw (pc : Nat) (d lo hi : Int) (offs : List Int) (ls st : List cq_A) (S : cq_S) : Option (List cq_O) := match st with
  | (1, f, _) :: r => bif cq_p (((offs.length : Nat) : Int) - (hi - lo + 1)) then some (cq_swL f pc ls r S lo offs ++ (cq_opt (cq_asm S.P (cq_ac (cq_neg f) (lo - 1))) ((pc : Int) + d).toNat ls r S ++ cq_opt (cq_asm S.P (cq_ac f (- hi - 1))) ((pc : Int) + d).toNat ls r S)) else none
  | _ => none
def cq_ld (ok : Nat → Bool) (i pc' : Nat) (ls st : List cq_A) (S : cq_S) : Option (List cq_O) := match ls[i]? with
  | some a => bif ok a.1 then some [(pc', ls, a :: st, S)] else none
  | none => none
def cq_sto (ok : Nat → Bool) (i pc' : Nat) (ls st : List cq_A) (S : cq_S) : Option (List cq_O) := match st with
  | a :: r => bif ok a.1 && Nat.blt i ls.length then some [(pc', cq_set1 ls i a, r, S)] else none
  | _ => none
def cq_stl (i pc' : Nat) (ls st : List cq_A) (S : cq_S) : Option (List cq_O) := match st with
  | a :: r => bif Nat.beq a.1 2 && Nat.blt (i + 1) ls.length then some [(pc', cq_set2 ls i a, r, S)] else none
  | _ => none
def cq_inc (i : Nat) (n : Int) (pc' : Nat) (ls st : List cq_A) (S : cq_S) : Option (List cq_O) := match ls[i]? with
  | some (1, f, _) => bif cq_p (n + 32768) && cq_p (32767 - n) then some [(pc', cq_set1 ls i (cq_ai S (cq_ac f n)).1, st, (cq_ai S (cq_ac f n)).2)] else none
  | _ => none
def cq_tI (t : Nat) : Bool := Nat.beq t 1 || Nat.beq t 3
def cq_tR (t : Nat) : Bool := Nat.ble 4 t && Nat.ble t 6
def cq_t1 (t : Nat) : Bool := Nat.beq t 1 || Nat.ble 3 t
def cq_b2 (pc' : Nat) (ls st : List cq_A) (F : cq_F → cq_F → Option (cq_A × cq_S)) : Option (List cq_O) := match st with
  | (1, g, _) :: (1, f, _) :: r => (match F f g with
    | some q => some [(pc', ls, q.1 :: r, q.2)]
    | none => none)
  | _ => none
def cq_l2 (pc' : Nat) (ls st : List cq_A) (F : cq_F → cq_F → Option (cq_A × cq_S)) : Option (List cq_O) := match st with
  | (2, g, _) :: (2, f, _) :: r => (match F f g with
    | some q => some [(pc', ls, q.1 :: r, q.2)]
    | none => none)
  | _ => none
def cq_u1 (t pc' : Nat) (ls st : List cq_A) (F : cq_F → cq_A × cq_S) : Option (List cq_O) := match st with
  | (a, f, _) :: r => bif Nat.beq a t then some [(pc', ls, (F f).1 :: r, (F f).2)] else none
  | _ => none
def cq_nz (S : cq_S) (g : cq_F) : Bool := cq_nn S.P.1 (cq_ac g (-1)) || cq_nn S.P.1 (cq_ac (cq_neg g) (-1))
section CQR
variable {m : cq_W} {h0 : am_H} {ρ : Nat → Int} {S : cq_S} {als ast : List cq_A} {ls st : List Value} {h : am_H} {out : List cq_O} {e : am_E} {pc pc' : Nat}
theorem cq_ref {t : Nat} {f : cq_F} {k : Nat} {v : Value} (ht : cq_tR t = true) (K : cq_g ρ (t, f, k) v) : v = .null ∨ ∃ a, v = .ref a := by
  have h1 := (Bool.and_eq_true _ _ ▸ ht)
  have a1 := Nat.le_of_ble_eq_true h1.1
  have a2 := Nat.le_of_ble_eq_true h1.2
  rcases (show t = 4 ∨ t = 5 ∨ t = 6 by omega) with q | q | q
  · subst q; exact Or.inl K
  · subst q; exact Or.inr ⟨_, K⟩
  · subst q
    rcases K with ⟨-, q⟩ | ⟨-, q⟩
    · exact Or.inl q
    · exact Or.inr ⟨_, q⟩
theorem cq_j3_ok {np rp : Nat} (H : cq_Rb m h0 ρ S als ast ls st h) (q : cq_j3 np rp als ast S = some out) : ∃ v rs, st = v :: rs ∧ ((v = .null ∧ cq_Res m h0 ρ S.n out (some (np, ls, rs, h))) ∨ ((∃ a, v = .ref a) ∧ cq_Res m h0 ρ S.n out (some (rp, ls, rs, h)))) := by
  unfold cq_j3 at q
  split at q
  · obtain ⟨v, rs, e1, K, H2⟩ := cq_pop1 H
    have e2 : v = .null := K ρ cq_ag.rf
    rw [← Option.some.inj q]
    exact ⟨v, rs, e1, Or.inl ⟨e2, cq_keep rfl H2⟩⟩
  · obtain ⟨v, rs, e1, K, H2⟩ := cq_pop1 H
    have e2 : v = .ref _ := K ρ cq_ag.rf
    rw [← Option.some.inj q]
    exact ⟨v, rs, e1, Or.inr ⟨⟨_, e2⟩, cq_keep rfl H2⟩⟩
  · rename_i f s r
    obtain ⟨v, rs, e1, K, H2⟩ := cq_pop1 H
    refine ⟨v, rs, e1, ?_⟩
    split at q
    · rename_i hn
      have hs := ((H ρ cq_ag.rf).1.N _ (cq_nl_ok hn)).1 rfl
      rw [← Option.some.inj q]
      rcases K ρ cq_ag.rf with ⟨w, -⟩ | ⟨-, w⟩
      · dsimp only at hs w; omega
      · exact Or.inr ⟨⟨_, w⟩, cq_keep rfl H2⟩
    · rename_i hn
      have hs := ((H ρ cq_ag.rf).1.N _ (cq_nl_ok hn)).2 rfl
      rw [← Option.some.inj q]
      rcases K ρ cq_ag.rf with ⟨-, w⟩ | ⟨w, -⟩
      · exact Or.inl ⟨w, cq_keep rfl H2⟩
      · dsimp only at hs w; omega
    · rw [← Option.some.inj q]
      have kN : ∀ b : Bool, (∀ ρ', cq_ag S.n ρ' ρ → (b = true → 0 ≤ ρ' s) ∧ (b = false → ρ' s < 0)) → ∀ ρ', cq_ag S.n ρ' ρ → cq_Md m h0 ρ' (S.sN ((s, b) :: S.N)) h := fun b kb ρ' a => by
        refine (H ρ' a).1.sN fun x hx => ?_
        rcases List.mem_cons.1 hx with z | z
        · subst z; exact kb ρ' a
        · exact (H ρ' a).1.N x z
      rcases K ρ cq_ag.rf with ⟨-, w⟩ | ⟨-, w⟩
      · refine Or.inl ⟨w, _, rfl, _, List.mem_cons_self, rfl, Nat.le_refl _, ρ, cq_ag.rf, fun ρ' a => ⟨kN false (fun ρ' a => ⟨fun z => (by cases z), fun _ => ?_⟩) ρ' a, (H2 ρ' a).2⟩⟩
        rcases K ρ' a with ⟨z, -⟩ | ⟨-, z⟩
        · exact z
        · rw [w] at z; cases z
      · refine Or.inr ⟨⟨_, w⟩, _, rfl, _, List.mem_cons_of_mem _ List.mem_cons_self, rfl, Nat.le_refl _, ρ, cq_ag.rf, fun ρ' a => ⟨kN true (fun ρ' a => ⟨fun _ => ?_, fun z => (by cases z)⟩) ρ' a, (H2 ρ' a).2⟩⟩
        rcases K ρ' a with ⟨-, z⟩ | ⟨z, -⟩
        · rw [w] at z; cases z
        · exact z
  · cases q
theorem cq_swL_ok {f : cq_F} {r : List cq_A} {rs : List Value} {x : Int} (H : cq_Rb m h0 ρ S als r ls rs h) (hx : ∀ ρ', cq_ag S.n ρ' ρ → x = cq_e ρ' f) : ∀ (offs : List Int) (k : Int) (o : Int), k ≤ x → offs[(x - k).toNat]? = some o → (∀ y ∈ cq_swL f pc als r S k offs, y ∈ out) → cq_Res m h0 ρ S.n out (some (((pc : Int) + o).toNat, ls, rs, h))
  | [], k, o, _, q, _ => by simp at q
  | o' :: os, k, o, hk, q, hi => by
    by_cases e : x = k
    · have e0 : (x - k).toNat = 0 := by omega
      rw [e0] at q
      have q : o' = o := by simpa using q
      subst q
      exact cq_opt_ok H (fun ρ' a => cq_aeq_ok (H ρ' a).1.P (by have := hx ρ' a; rw [cq_ac_e]; omega)) (fun y hy => hi y (List.mem_append_left _ hy))
    · have e1 : (x - k).toNat = (x - (k + 1)).toNat + 1 := by omega
      rw [e1, List.getElem?_cons_succ] at q
      exact cq_swL_ok H hx os (k + 1) o (by omega) q (fun y hy => hi y (List.mem_append_right _ hy))
theorem cq_sw_ok {d lo hi : Int} {offs : Array Int} (he : e.1 = .tableswitch d lo hi offs) (H : cq_Rb m h0 ρ S als ast ls st h) (q : cq_sw pc d lo hi offs.toList als ast S = some out) : cq_Res m h0 ρ S.n out (am_st e pc ls st h) := by
  unfold cq_sw at q
  split at q
  · rename_i f k r
    cases hb : cq_p (((offs.toList.length : Nat) : Int) - (hi - lo + 1)) with
    | false => rw [hb] at q; cases q
    | true =>
      rw [hb] at q
      have q := Option.some.inj q
      have hl := cq_p_le hb
      obtain ⟨v, rs, e1, K, H2⟩ := cq_pop1 H
      subst e1
      obtain ⟨x, e2, hx⟩ := cq_int K
      subst e2
      simp only [am_st, he]
      subst q
      by_cases hc : x.toInt < lo ∨ hi < x.toInt
      · rw [if_pos hc]
        rcases hc with c1 | c1
        · exact cq_opt_ok H2 (fun ρ' a => cq_asm_ok (H2 ρ' a).1.P (by have := hx ρ' a; rw [cq_ac_e, cq_neg_e]; omega)) (fun y hy => List.mem_append_right _ (List.mem_append_left _ hy))
        · exact cq_opt_ok H2 (fun ρ' a => cq_asm_ok (H2 ρ' a).1.P (by have := hx ρ' a; rw [cq_ac_e]; omega)) (fun y hy => List.mem_append_right _ (List.mem_append_right _ hy))
      · rw [if_neg hc]
        have hlt : (x.toInt - lo).toNat < offs.size := by
          have : offs.toList.length = offs.size := Array.length_toList
          omega
        have e3 : offs[(x.toInt - lo).toNat]? = some offs[(x.toInt - lo).toNat] := Array.getElem?_eq_getElem hlt
        rw [e3]
        refine cq_swL_ok H2 hx offs.toList lo _ (by omega) ?_ (fun y hy => List.mem_append_left _ hy)
        rw [Array.getElem?_toList]
        exact e3
  · cases q
theorem cq_ld_ok {ok : Nat → Bool} {i : Nat} (H : cq_Rb m h0 ρ S als ast ls st h) (q : cq_ld ok i pc' als ast S = some out) : ∃ a v, als[i]? = some a ∧ ls[i]? = some v ∧ ok a.1 = true ∧ (∀ ρ', cq_ag S.n ρ' ρ → cq_g ρ' a v) ∧ cq_Res m h0 ρ S.n out (some (pc', ls, v :: st, h)) := by
  unfold cq_ld at q
  split at q
  · rename_i a ha
    cases hb : ok a.1 with
    | false => rw [hb] at q; cases q
    | true =>
      rw [hb] at q
      rw [← Option.some.inj q]
      obtain ⟨v, hv, -⟩ := cq_gs_get (H ρ cq_ag.rf).2.1 ha
      have K : ∀ ρ', cq_ag S.n ρ' ρ → cq_g ρ' a v := fun ρ' x => by
        obtain ⟨w, hw, hg⟩ := cq_gs_get (H ρ' x).2.1 ha
        rw [hv] at hw
        rw [Option.some.inj hw]
        exact hg
      exact ⟨a, v, ha, hv, hb, K, cq_keep rfl fun ρ' x => ⟨(H ρ' x).1, (H ρ' x).2.1, K ρ' x, (H ρ' x).2.2⟩⟩
  · cases q
theorem cq_sto_ok {ok : Nat → Bool} {i : Nat} (H : cq_Rb m h0 ρ S als ast ls st h) (q : cq_sto ok i pc' als ast S = some out) : ∃ a v rs, st = v :: rs ∧ ok a.1 = true ∧ i < ls.length ∧ (∀ ρ', cq_ag S.n ρ' ρ → cq_g ρ' a v) ∧ cq_Res m h0 ρ S.n out (some (pc', am_set1 ls i v, rs, h)) := by
  unfold cq_sto at q
  split at q
  · rename_i a r
    cases hb : ok a.1 && Nat.blt i als.length with
    | false => rw [hb] at q; cases q
    | true =>
      rw [hb] at q
      rw [← Option.some.inj q]
      have hb := (Bool.and_eq_true _ _ ▸ hb)
      obtain ⟨v, rs, e1, K, H2⟩ := cq_pop1 H
      refine ⟨a, v, rs, e1, hb.1, ?_, K, cq_keep rfl fun ρ' x => ⟨(H ρ' x).1, cq_set1_ok (H ρ' x).2.1 (K ρ' x) i, (H2 ρ' x).2.2⟩⟩
      rw [← cq_gs_len (H ρ cq_ag.rf).2.1]
      exact Nat.le_of_ble_eq_true hb.2
  · cases q
theorem cq_stl_ok {i : Nat} (H : cq_Rb m h0 ρ S als ast ls st h) (q : cq_stl i pc' als ast S = some out) : ∃ x rs, st = .long x :: rs ∧ i + 1 < ls.length ∧ cq_Res m h0 ρ S.n out (some (pc', am_set2 ls i (.long x), rs, h)) := by
  unfold cq_stl at q
  split at q
  · rename_i a r
    cases hb : Nat.beq a.1 2 && Nat.blt (i + 1) als.length with
    | false => rw [hb] at q; cases q
    | true =>
      rw [hb] at q
      rw [← Option.some.inj q]
      have hb := (Bool.and_eq_true _ _ ▸ hb)
      obtain ⟨v, rs, e1, K, H2⟩ := cq_pop1 H
      obtain ⟨t, f, k⟩ := a
      have et : t = 2 := am_beq hb.1
      subst et
      obtain ⟨x, e2, -⟩ := cq_lng K
      subst e2
      refine ⟨x, rs, e1, ?_, cq_keep rfl fun ρ' x => ⟨(H ρ' x).1, cq_set2_ok (H ρ' x).2.1 (K ρ' x) i, (H2 ρ' x).2.2⟩⟩
      rw [← cq_gs_len (H ρ cq_ag.rf).2.1]
      exact Nat.le_of_ble_eq_true hb.2
  · cases q
theorem cq_b2_ok {op : Int32 → Int32 → Int32} {C : Int32 → Int32 → Prop} {F : cq_F → cq_F → Option (cq_A × cq_S)} (he : ∀ x y r, C x y → am_st e pc ls (.int y :: .int x :: r) h = some (pc', ls, .int (op x y) :: r, h)) (hF : ∀ f g q x y, F f g = some q → (∀ ρ', cq_ag S.n ρ' ρ → cq_Md m h0 ρ' S h ∧ x.toInt = cq_e ρ' f ∧ y.toInt = cq_e ρ' g) → C x y ∧ cq_Mk m h0 ρ S h q (.int (op x y))) (H : cq_Rb m h0 ρ S als ast ls st h) (q : cq_b2 pc' als ast F = some out) : cq_Res m h0 ρ S.n out (am_st e pc ls st h) := by
  unfold cq_b2 at q
  split at q
  · rename_i g k1 f k2 r
    split at q
    · rename_i w hw
      rw [← Option.some.inj q]
      obtain ⟨v, rs, e1, K1, H1⟩ := cq_pop1 H
      subst e1
      obtain ⟨y, e2, hy⟩ := cq_int K1
      subst e2
      obtain ⟨v, rs, e1, K2, H2⟩ := cq_pop1 H1
      subst e1
      obtain ⟨x, e2, hx⟩ := cq_int K2
      subst e2
      obtain ⟨hC, hM⟩ := hF f g w x y hw fun ρ' a => ⟨(H ρ' a).1, hx ρ' a, hy ρ' a⟩
      rw [he x y rs hC]
      exact hM.res fun ρ' a => (H2 ρ' a).2
    · cases q
  · cases q
theorem cq_l2_ok {op : Int64 → Int64 → Value} {C : Int64 → Int64 → Prop} {F : cq_F → cq_F → Option (cq_A × cq_S)} (he : ∀ x y r, C x y → am_st e pc ls (.long y :: .long x :: r) h = some (pc', ls, op x y :: r, h)) (hF : ∀ f g q x y, F f g = some q → (∀ ρ', cq_ag S.n ρ' ρ → cq_Md m h0 ρ' S h ∧ x.toInt = cq_e ρ' f ∧ y.toInt = cq_e ρ' g) → C x y ∧ cq_Mk m h0 ρ S h q (op x y)) (H : cq_Rb m h0 ρ S als ast ls st h) (q : cq_l2 pc' als ast F = some out) : cq_Res m h0 ρ S.n out (am_st e pc ls st h) := by
  unfold cq_l2 at q
  split at q
  · rename_i g k1 f k2 r
    split at q
    · rename_i w hw
      rw [← Option.some.inj q]
      obtain ⟨v, rs, e1, K1, H1⟩ := cq_pop1 H
      subst e1
      obtain ⟨y, e2, hy⟩ := cq_lng K1
      subst e2
      obtain ⟨v, rs, e1, K2, H2⟩ := cq_pop1 H1
      subst e1
      obtain ⟨x, e2, hx⟩ := cq_lng K2
      subst e2
      obtain ⟨hC, hM⟩ := hF f g w x y hw fun ρ' a => ⟨(H ρ' a).1, hx ρ' a, hy ρ' a⟩
      rw [he x y rs hC]
      exact hM.res fun ρ' a => (H2 ρ' a).2
    · cases q
  · cases q
theorem cq_nz_ok {g : cq_F} {y : Int} (hz : cq_nz S g = true) (H : ∀ ρ', cq_ag S.n ρ' ρ → cq_Md m h0 ρ' S h ∧ y = cq_e ρ' g) : y ≠ 0 := by
  obtain ⟨D, e⟩ := H ρ cq_ag.rf
  rcases Bool.or_eq_true _ _ ▸ hz with q | q
  · have := cq_nn_ok D.P.1 q
    rw [cq_ac_e] at this
    omega
  · have := cq_nn_ok D.P.1 q
    rw [cq_ac_e, cq_neg_e] at this
    omega
end CQR
end
section
/-! THE CHECKER, 8: the steps that leave the heap alone, all of them -/
def cq_k1 (n l u : Int) : Bool := cq_p (n - l) && cq_p (u - n)
def cq_pu (e : am_E) (pc : Nat) (ls st : List cq_A) (S : cq_S) : Option (List cq_O) := match e.1 with
  | .aconst_null => some [(pc + 1, ls, cq_nu :: st, S)]
  | .iconst n => bif cq_k1 n (-32768) 32767 then some [(pc + 1, ls, cq_i (cq_c n) :: st, S)] else none
  | .bipush n => bif cq_k1 n (-128) 127 then some [(pc + 2, ls, cq_i (cq_c n) :: st, S)] else none
  | .sipush n => bif cq_k1 n (-32768) 32767 then some [(pc + 3, ls, cq_i (cq_c n) :: st, S)] else none
  | .lconst n => bif Nat.blt n 100 then some [(pc + 1, ls, cq_l (cq_c n) :: st, S)] else none
  | .ldc _ => bif Nat.beq e.2.2.2.2.1 0 then some [(pc + 2, ls, cq_i (cq_c ((e.2.2.2.1 : Int).bmod (2 ^ 32))) :: st, S)] else none
  | .ldc_w _ => bif Nat.beq e.2.2.2.2.1 0 then some [(pc + 3, ls, cq_i (cq_c ((e.2.2.2.1 : Int).bmod (2 ^ 32))) :: st, S)] else none
  | .ldc2_w _ => some [(pc + 3, ls, cq_l (cq_c ((e.2.2.2.1 : Int).bmod (2 ^ 64))) :: st, S)]
  | .getstatic _ => some [(pc + 3, ls, cq_rc e.2.2.2.1 :: st, S)]
  | .iload i => cq_ld cq_tI i (pc + 2) ls st S
  | .iload_n i => cq_ld cq_tI i.val (pc + 1) ls st S
  | .lload i => cq_ld (fun t => Nat.beq t 2) i (pc + 2) ls st S
  | .lload_n i => cq_ld (fun t => Nat.beq t 2) i.val (pc + 1) ls st S
  | .aload i => cq_ld cq_tR i (pc + 2) ls st S
  | .aload_n i => cq_ld cq_tR i.val (pc + 1) ls st S
  | .istore i => cq_sto cq_tI i (pc + 2) ls st S
  | .istore_n i => cq_sto cq_tI i.val (pc + 1) ls st S
  | .astore i => cq_sto cq_tR i (pc + 2) ls st S
  | .astore_n i => cq_sto cq_tR i.val (pc + 1) ls st S
  | .lstore i => cq_stl i (pc + 2) ls st S
  | .lstore_n i => cq_stl i.val (pc + 1) ls st S
  | .iinc i n => cq_inc i n (pc + 3) ls st S
  | .iadd => cq_b2 (pc + 1) ls st fun f g => some (cq_ai S (cq_add f g))
  | .isub => cq_b2 (pc + 1) ls st fun f g => some (cq_ai S (cq_sub f g))
  | .imul => cq_b2 (pc + 1) ls st fun f g => (match cq_mu f g with
    | some p => some (cq_ai S p)
    | none => some (cq_any S))
  | .iand => cq_b2 (pc + 1) ls st fun f g => some (cq_an S f g)
  | .ishl => cq_b2 (pc + 1) ls st fun f g => some (cq_sl S f g)
  | .ior => cq_b2 (pc + 1) ls st fun _ _ => some (cq_any S)
  | .ixor => cq_b2 (pc + 1) ls st fun _ _ => some (cq_any S)
  | .ishr => cq_b2 (pc + 1) ls st fun _ _ => some (cq_any S)
  | .iushr => cq_b2 (pc + 1) ls st fun _ _ => some (cq_any S)
  | .idiv => cq_b2 (pc + 1) ls st fun _ g => bif cq_nz S g then some (cq_any S) else none
  | .irem => cq_b2 (pc + 1) ls st fun _ g => bif cq_nz S g then some (cq_any S) else none
  | .ladd => cq_l2 (pc + 1) ls st fun f g => some (cq_al S (cq_add f g))
  | .lsub => cq_l2 (pc + 1) ls st fun f g => some (cq_al S (cq_sub f g))
  | .lmul => cq_l2 (pc + 1) ls st fun _ _ => some (cq_anl S)
  | .lor => cq_l2 (pc + 1) ls st fun _ _ => some (cq_anl S)
  | .ldiv => cq_l2 (pc + 1) ls st fun _ g => bif cq_nz S g then some (cq_anl S) else none
  | .lrem => cq_l2 (pc + 1) ls st fun _ g => bif cq_nz S g then some (cq_anl S) else none
  | .lcmp => cq_l2 (pc + 1) ls st fun f g => some (cq_v (cq_sub f g), S)
  | .lshl => (match st with
    | (1, _, _) :: (2, _, _) :: r => some [(pc + 1, ls, (cq_anl S).1 :: r, (cq_anl S).2)]
    | _ => none)
  | .i2l => cq_u1 1 (pc + 1) ls st fun f => (cq_l f, S)
  | .l2i => cq_u1 2 (pc + 1) ls st fun f => cq_ai S f
  | .i2b => cq_u1 1 (pc + 1) ls st fun f => bif cq_in S.P f (-128) 127 then (cq_i f, S) else cq_fi S (-128) 127
  | .dup => (match st with
    | a :: r => bif cq_t1 a.1 then some [(pc + 1, ls, a :: a :: r, S)] else none
    | _ => none)
  | .dup2 => (match st with
    | a :: b :: r => bif cq_t1 a.1 && cq_t1 b.1 then some [(pc + 1, ls, a :: b :: a :: b :: r, S)] else none
    | _ => none)
  | .pop => (match st with
    | a :: r => bif cq_t1 a.1 then some [(pc + 1, ls, r, S)] else none
    | _ => none)
  | .goto _ => some [(e.2.2.1.toNat, ls, st, S)]
  | .ifCond c _ => cq_j1 c e.2.2.1.toNat (pc + 3) ls st S
  | .if_icmp c _ => cq_j2 c e.2.2.1.toNat (pc + 3) ls st S
  | .ifnull _ => cq_j3 e.2.2.1.toNat (pc + 3) ls st S
  | .ifnonnull _ => cq_j3 (pc + 3) e.2.2.1.toNat ls st S
  | .tableswitch d lo hi offs => cq_sw pc d lo hi offs.toList ls st S
  | _ => none
section CQU
variable {m : cq_W} {h0 : am_H} {ρ : Nat → Int} {S : cq_S} {als ast : List cq_A} {ls st : List Value} {h : am_H} {out : List cq_O} {e : am_E} {pc pc' : Nat}
theorem cq_k1_ok {n l u : Int} (q : cq_k1 n l u = true) : l ≤ n ∧ n ≤ u := by
  have q := (Bool.and_eq_true _ _ ▸ q)
  have := cq_p_le q.1
  have := cq_p_le q.2
  omega
theorem cq_push {a : cq_A} {v : Value} (H : cq_Rb m h0 ρ S als ast ls st h) (K : ∀ ρ', cq_ag S.n ρ' ρ → cq_g ρ' a v) : cq_Res m h0 ρ S.n [(pc', als, a :: ast, S)] (some (pc', ls, v :: st, h)) := cq_keep rfl fun ρ' x => ⟨(H ρ' x).1, (H ρ' x).2.1, K ρ' x, (H ρ' x).2.2⟩
theorem cq_cat1' {a : cq_A} {v : Value} (K : cq_g ρ a v) (ht : cq_t1 a.1 = true) : v.category = 1 := by
  refine cq_cat1 K ?_ ?_
  · intro q
    rw [q] at ht
    cases ht
  · intro q
    rw [q] at ht
    cases ht
theorem cq_tI_ok {a : cq_A} {v : Value} (ht : cq_tI a.1 = true) (K : cq_g ρ a v) : ∃ x : Int32, v = .int x := by
  obtain ⟨t, f, k⟩ := a
  rcases Bool.or_eq_true _ _ ▸ ht with q | q
  · have e := am_beq q
    dsimp only at e
    subst e
    obtain ⟨x, e, -⟩ := K
    exact ⟨x, e⟩
  · have e := am_beq q
    dsimp only at e
    subst e
    obtain ⟨x, e, -⟩ := K
    exact ⟨x, e⟩
theorem cq_tL_ok {a : cq_A} {v : Value} (ht : Nat.beq a.1 2 = true) (K : cq_g ρ a v) : ∃ x : Int64, v = .long x := by
  obtain ⟨t, f, k⟩ := a
  have e := am_beq ht
  dsimp only at e
  subst e
  obtain ⟨x, e, -⟩ := K
  exact ⟨x, e⟩
theorem cq_tR_ok {a : cq_A} {v : Value} (ht : cq_tR a.1 = true) (K : cq_g ρ a v) : v = .null ∨ ∃ a, v = .ref a := by
  obtain ⟨t, f, k⟩ := a
  exact cq_ref ht K
theorem cq_cmp_s (x y : Int64) : ((lg_cmp x y).toInt < 0 ↔ x.toInt - y.toInt < 0) ∧ ((lg_cmp x y).toInt = 0 ↔ x.toInt - y.toInt = 0) := by
  unfold lg_cmp
  by_cases h1 : x > y
  · rw [if_pos h1]
    have := Int64.lt_iff_toInt_lt.1 h1
    have e : (1 : Int32).toInt = 1 := rfl
    rw [e]
    omega
  · rw [if_neg h1]
    have n1 : ¬ y.toInt < x.toInt := fun z => h1 (Int64.lt_iff_toInt_lt.2 z)
    by_cases h2 : x = y
    · rw [if_pos h2]
      have e : (0 : Int32).toInt = 0 := rfl
      rw [e, h2]
      omega
    · rw [if_neg h2]
      have n2 : x.toInt ≠ y.toInt := fun z => h2 (Int64.toInt_inj.1 z)
      have e : (-1 : Int32).toInt = -1 := rfl
      rw [e]
      omega
theorem cq_u1_ok {t : Nat} {F : cq_F → cq_A × cq_S} {f : cq_F} {k : Nat} {r : List cq_A} {v w : Value} {rs : List Value} (H : cq_Rb m h0 ρ S als ((t, f, k) :: r) ls (v :: rs) h) (hF : cq_Mk m h0 ρ S h (F f) w) : cq_Res m h0 ρ S.n [(pc', als, (F f).1 :: r, (F f).2)] (some (pc', ls, w :: rs, h)) :=
  hF.res fun ρ' a => ⟨(H ρ' a).2.1, (H ρ' a).2.2.2⟩
theorem cq_inc_ok {i : Nat} {n : Int} (he : e.1 = .iinc i n) (H : cq_Rb m h0 ρ S als ast ls st h) (q : cq_inc i n (pc + 3) als ast S = some out) : cq_Res m h0 ρ S.n out (am_st e pc ls st h) := by
  unfold cq_inc at q
  split at q
  · rename_i f k ha
    cases hb : cq_p (n + 32768) && cq_p (32767 - n) with
    | false => rw [hb] at q; cases q
    | true =>
      rw [hb] at q
      rw [← Option.some.inj q]
      have hb := (Bool.and_eq_true _ _ ▸ hb)
      have b1 := cq_p_le hb.1
      have b2 := cq_p_le hb.2
      obtain ⟨v, hv, -⟩ := cq_gs_get (H ρ cq_ag.rf).2.1 ha
      have K : ∀ ρ', cq_ag S.n ρ' ρ → cq_g ρ' (1, f, k) v := fun ρ' x => by
        obtain ⟨w, hw, hg⟩ := cq_gs_get (H ρ' x).2.1 ha
        rw [hv] at hw
        rw [Option.some.inj hw]
        exact hg
      obtain ⟨x, e1, hx⟩ := cq_int K
      subst e1
      simp only [am_st, he, hv]
      have e2 : (Int32.ofInt n).toInt = n := Int32.toInt_ofInt_of_le (by omega) (by omega)
      obtain ⟨hn, ρ1, a1, k1⟩ := cq_ai_ok (m := m) (h0 := h0) (ρ := ρ) (S := S) (h := h) (f := cq_ac f n) (x := x + Int32.ofInt n) fun ρ' a => ⟨(H ρ' a).1, by rw [Int32.toInt_add, e2, cq_ac_e, hx ρ' a]⟩
      refine ⟨_, rfl, _, List.mem_cons_self, rfl, hn, ρ1, a1, fun ρ' a => ?_⟩
      obtain ⟨D, g⟩ := k1 ρ' a
      have a2 : cq_ag S.n ρ' ρ := (a.lt hn).tr a1
      exact ⟨D, cq_set1_ok (H ρ' a2).2.1 g i, (H ρ' a2).2.2⟩
  · cases q
end CQU
end
