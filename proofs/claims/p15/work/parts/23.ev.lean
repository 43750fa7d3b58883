/-! RUNS OF THE PLAIN MACHINE: more fuel does no harm; rules for runs -/
def am_lew (rc rc' : am_F) : Prop := ∀ d y pc ls st h x, rc d y pc ls st h = some x → rc' d y pc ls st h = some x
section AMV
variable {rc rc' : am_F} {d y pc : Nat} {ls st : List Value} {h : am_H} {x : Option Value × am_H}
theorem am_thr_mono (hr : am_lew rc rc') {a : Nat} (q : am_thr rc d y pc ls a h = some x) : am_thr rc' d y pc ls a h = some x := by
  unfold am_thr at q ⊢
  simp only [cond_eq_ite] at q ⊢
  split at q
  · rename_i hc
    rw [if_pos hc]
    split at q
    · rename_i hp he
      try simp only [he]
      exact hr _ _ _ _ _ _ _ q
    · rename_i he
      try simp only [he]
      exact q
  · cases q
theorem am_lds_mono (hr : am_lew rc rc') {e : am_E} (q : am_lds rc d y pc ls st h e = some x) : am_lds rc' d y pc ls st h e = some x := by
  unfold am_lds at q ⊢
  split at q
  · rename_i idx hi
    try simp only [hi]
    split at q
    · rename_i i hs
      try simp only [hs]
      exact hr _ _ _ _ _ _ _ q
    · cases q
  · rename_i idx hi
    try simp only [hi]
    split at q
    · rename_i i hs
      try simp only [hs]
      exact hr _ _ _ _ _ _ _ q
    · cases q
  · cases q
theorem am_cas_mono (hr : am_lew rc rc') {e : am_E} (q : am_cas rc d y pc ls st h e = some x) : am_cas rc' d y pc ls st h e = some x := by
  unfold am_cas at q ⊢
  split at q
  · cases q
  · rename_i d'
    simp only [cond_eq_ite] at q ⊢
    split at q
    · rename_i hz
      rw [if_pos hz]
      split at q
      · split at q
        · rename_i hc
          try dsimp only
          rw [if_pos hc]
          exact hr _ _ _ _ _ _ _ q
        · cases q
      · cases q
    · rename_i hz
      rw [if_neg hz]
      split at q
      · split at q
        · rename_i hc
          try dsimp only
          rw [if_pos hc]
          exact hr _ _ _ _ _ _ _ q
        · cases q
      · cases q
theorem am_cal0_mono (hr : am_lew rc rc') {e : am_E} (q : am_cal0 rc d y pc ls st h e = some x) : am_cal0 rc' d y pc ls st h e = some x := by
  unfold am_cal0 at q ⊢
  split at q
  · cases q
  · rename_i d'
    simp only [cond_eq_ite] at q ⊢
    split at q
    · rename_i hz
      rw [if_pos hz]
      split at q
      · split at q
        · rename_i hc
          try dsimp only
          rw [if_pos hc]
          exact hr _ _ _ _ _ _ _ q
        · cases q
      · cases q
    · rename_i hz
      rw [if_neg hz]
      split at q
      · rename_i hz
        rw [if_pos hz]
        split at q
        · split at q
          · rename_i hc
            try dsimp only
            rw [if_pos hc]
            split at q
            · rename_i h2 hcp
              try simp only [hcp]
              exact hr _ _ _ _ _ _ _ q
            · cases q
          · cases q
        · cases q
      · rename_i hz
        rw [if_neg hz]
        split at q
        · rename_i hz
          rw [if_pos hz]
          split at q
          · split at q
            · rename_i hc
              try dsimp only
              rw [if_pos hc]
              exact hr _ _ _ _ _ _ _ q
            · cases q
          · cases q
        · rename_i hz
          rw [if_neg hz]
          split at q
          · rename_i hz
            rw [if_pos hz]
            split at q
            · split at q
              · rename_i hc
                try dsimp only
                rw [if_pos hc]
                exact hr _ _ _ _ _ _ _ q
              · cases q
            · cases q
          · rename_i hz
            rw [if_neg hz]
            split at q
            · rename_i hz
              rw [if_pos hz]
              split at q
              · split at q
                · rename_i hc
                  try dsimp only
                  rw [if_pos hc]
                  exact hr _ _ _ _ _ _ _ q
                · cases q
              · cases q
            · rename_i hz
              rw [if_neg hz]
              split at q
              · rename_i hc
                rw [if_pos hc]
                split at q
                · rename_i v h2 he
                  have he2 := hr _ _ _ _ _ _ _ he
                  try simp only [he2]
                  split at q
                  · rename_i a ha
                    try simp only [ha]
                    split at q
                    · rename_i hk
                      rw [if_pos hk]
                      exact am_thr_mono hr q
                    · cases q
                  · rename_i ha
                    try simp only [ha]
                    exact hr _ _ _ _ _ _ _ q
                · cases q
              · cases q
theorem am_cal_mono (hr : am_lew rc rc') {e : am_E} (q : am_cal rc d y pc ls st h e = some x) : am_cal rc' d y pc ls st h e = some x := by
  unfold am_cal at q ⊢
  simp only [cond_eq_ite] at q ⊢
  split at q
  · rename_i hz
    rw [if_pos hz]
    exact am_cas_mono hr q
  · rename_i hz
    rw [if_neg hz]
    exact am_cal0_mono hr q
theorem am_one_mono (hr : am_lew rc rc') (q : am_one rc d y pc ls st h = some x) : am_one rc' d y pc ls st h = some x := by
  unfold am_one at q ⊢
  split at q
  · cases q
  · rename_i e hc
    try simp only [hc]
    split at q
    · rename_i hi
      try simp only [hi]
      exact q
    · rename_i hi
      try simp only [hi]
      exact q
    · rename_i hi
      try simp only [hi]
      exact q
    · rename_i hi
      try simp only [hi]
      exact q
    · rename_i hi
      try simp only [hi]
      split at q
      · exact am_thr_mono hr q
      · cases q
    · rename_i i hi
      try simp only [hi]
      exact am_cal_mono hr q
    · rename_i i hi
      try simp only [hi]
      exact am_cal_mono hr q
    · rename_i i hi
      try simp only [hi]
      exact am_cal_mono hr q
    · split at q
      · rename_i hs
        try simp only [hs]
        exact hr _ _ _ _ _ _ _ q
      · rename_i hs
        try simp only [hs]
        exact am_lds_mono hr q
end AMV
theorem am_run_up : ∀ n, am_lew (am_run n) (am_run (n + 1))
  | 0 => fun _ _ _ _ _ _ _ q => by cases q
  | n + 1 => fun d y pc ls st h x q => by
    rw [am_run_s] at q ⊢
    exact am_one_mono (am_run_up n) q
theorem am_run_le {n k d y pc : Nat} {ls st : List Value} {h : am_H} {x : Option Value × am_H} (hk : n ≤ k) (q : am_run n d y pc ls st h = some x) : am_run k d y pc ls st h = some x := by
  induction hk with
  | refl => exact q
  | step _ ih => exact am_run_up _ _ _ _ _ _ _ _ ih
/-- the machine comes from a place to an answer -/
def am_ev (d y pc : Nat) (ls st : List Value) (h : am_H) (x : Option Value × am_H) : Prop := ∃ n, am_run n d y pc ls st h = some x
section AMW
variable {d y pc : Nat} {ls st : List Value} {h : am_H} {x : Option Value × am_H}
theorem am_ev.one (q : ∃ n, am_one (am_run n) d y pc ls st h = some x) : am_ev d y pc ls st h x := by
  obtain ⟨n, q⟩ := q
  exact ⟨n + 1, by rw [am_run_s]; exact q⟩
def am_at (y pc : Nat) (e : am_E) : Prop := (bif Nat.blt y am_NM && Nat.blt pc (am_bd y) then am_code y pc else none) = some e
theorem am_cal_gen {rc : am_F} {e : am_E} {as rr : List Value} {v : Option Value} {h2 : am_H} (nz : 0 < e.2.2.2.1 ∧ e.2.2.2.1 < 264 ∧ e.2.2.2.1 ≠ 10 ∧ e.2.2.2.1 ≠ 57) (hst : st = as.reverse ++ rr) (hlen : as.length = (am_in e.2.2.2.1).2.1) (hcs : am_cs rr ≤ 8) (hrcv : am_rcv e.2.2.2.1 as h = true) (hw : (am_wid as).length ≤ (am_in e.2.2.2.1).2.2.1) (q1 : rc d e.2.2.2.1 0 (am_ent as (am_in e.2.2.2.1).2.2.1) [] h = some (v, h2)) :
    am_cal rc (d + 1) y pc ls st h e = (match am_isT v with
      | some a => bif Nat.beq (am_in e.2.2.2.1).2.2.2 0 then am_thr rc (d + 1) y pc ls a h2 else none
      | none => rc (d + 1) y (pc + 3) ls (v.toList ++ rr) h2) := by
  have hb : ∀ k, e.2.2.2.1 ≠ k → Nat.beq e.2.2.2.1 k = false := fun k hk => by
    cases hh : Nat.beq e.2.2.2.1 k with
    | false => rfl
    | true => exact absurd (am_beq hh) hk
  obtain ⟨z0, z1, z2, z3⟩ := nz
  have hl : st.length = as.length + rr.length := by rw [hst, List.length_append, List.length_reverse]
  obtain ⟨e1, e2⟩ := List.append_inj ((List.take_append_drop (am_in e.2.2.2.1).2.1 st).trans hst) (by rw [List.length_take, List.length_reverse]; omega)
  have c1 : Nat.blt 0 e.2.2.2.1 = true := Nat.ble_eq_true_of_le z0
  have c2 : Nat.ble (am_in e.2.2.2.1).2.1 st.length = true := Nat.ble_eq_true_of_le (by omega)
  have c3 : Nat.ble (am_cs rr) 8 = true := Nat.ble_eq_true_of_le hcs
  have c4 : Nat.ble (am_wid as).length (am_in e.2.2.2.1).2.2.1 = true := Nat.ble_eq_true_of_le hw
  unfold am_cal am_cal0
  simp only [hb 1003 (by omega), hb 1004 (by omega), hb 1000 (by omega), hb 1001 (by omega), hb 1002 (by omega), hb 10 z2, hb 57 z3, e1, e2, List.reverse_reverse, c1, c2, c3, c4, hrcv, q1, Bool.or_self, Bool.and_self, cond_true, cond_false]
  cases am_isT v <;> rfl
/-- a call that comes back -/
theorem am_ev.call {e : am_E} {as rr : List Value} {v : Option Value} {h2 : am_H} (hc : am_at y pc e) (hi : am_isC e.1) (nz : 0 < e.2.2.2.1 ∧ e.2.2.2.1 < 264 ∧ e.2.2.2.1 ≠ 10 ∧ e.2.2.2.1 ≠ 57) (hst : st = as.reverse ++ rr) (hlen : as.length = (am_in e.2.2.2.1).2.1) (hcs : am_cs rr ≤ 8) (hrcv : am_rcv e.2.2.2.1 as h = true) (hw : (am_wid as).length ≤ (am_in e.2.2.2.1).2.2.1)
    (q1 : am_ev d e.2.2.2.1 0 (am_ent as (am_in e.2.2.2.1).2.2.1) [] h (v, h2)) (hv : am_isT v = none) (q2 : am_ev (d + 1) y (pc + 3) ls (v.toList ++ rr) h2 x) : am_ev (d + 1) y pc ls st h x := by
  obtain ⟨n1, q1⟩ := q1
  obtain ⟨n2, q2⟩ := q2
  refine am_ev.one ⟨max n1 n2, ?_⟩
  have g1 := am_run_le (Nat.le_max_left n1 n2) q1
  have g2 := am_run_le (Nat.le_max_right n1 n2) q2
  have g := am_cal_gen (y := y) (pc := pc) (ls := ls) nz hst hlen hcs hrcv hw g1
  simp only [hv] at g
  rw [g2] at g
  unfold am_one
  rw [show (bif Nat.blt y am_NM && Nat.blt pc (am_bd y) then am_code y pc else none) = some e from hc]
  rcases hi with ⟨j, e1⟩ | ⟨j, e1⟩ | ⟨j, e1⟩ <;> (simp only [e1]; exact g)
/-- a call that throws: the place of the call finds a handler -/
theorem am_ev.callC {e : am_E} {as rr : List Value} {a hp : Nat} {h2 : am_H} (hc : am_at y pc e) (hi : am_isC e.1) (nz : 0 < e.2.2.2.1 ∧ e.2.2.2.1 < 264 ∧ e.2.2.2.1 ≠ 10 ∧ e.2.2.2.1 ≠ 57) (hst : st = as.reverse ++ rr) (hlen : as.length = (am_in e.2.2.2.1).2.1) (hcs : am_cs rr ≤ 8) (hrcv : am_rcv e.2.2.2.1 as h = true) (hw : (am_wid as).length ≤ (am_in e.2.2.2.1).2.2.1)
    (q1 : am_ev d e.2.2.2.1 0 (am_ent as (am_in e.2.2.2.1).2.2.1) [] h (some (.retAddr (a + 1)), h2)) (hk : (am_in e.2.2.2.1).2.2.2 = 0) (hy : 0 < y) (ha : am_isO h2 a 12 = true) (hh : am_ctc (am_hh y) pc = some hp) (q2 : am_ev (d + 1) y hp ls [.ref a] h2 x) : am_ev (d + 1) y pc ls st h x := by
  obtain ⟨n1, q1⟩ := q1
  obtain ⟨n2, q2⟩ := q2
  refine am_ev.one ⟨max n1 n2, ?_⟩
  have g1 := am_run_le (Nat.le_max_left n1 n2) q1
  have g2 := am_run_le (Nat.le_max_right n1 n2) q2
  have g := am_cal_gen (y := y) (pc := pc) (ls := ls) nz hst hlen hcs hrcv hw g1
  have hb : Nat.blt 0 y = true := Nat.ble_eq_true_of_le hy
  simp only [am_isT, hk, am_thr, ha, hb, hh, Bool.and_self, cond_true, g2, Nat.beq_refl] at g
  unfold am_one
  rw [show (bif Nat.blt y am_NM && Nat.blt pc (am_bd y) then am_code y pc else none) = some e from hc]
  rcases hi with ⟨j, e1⟩ | ⟨j, e1⟩ | ⟨j, e1⟩ <;> (simp only [e1]; exact g)
/-- a call that throws: no handler, the method throws too -/
theorem am_ev.callT {e : am_E} {as rr : List Value} {a : Nat} {h2 : am_H} (hc : am_at y pc e) (hi : am_isC e.1) (nz : 0 < e.2.2.2.1 ∧ e.2.2.2.1 < 264 ∧ e.2.2.2.1 ≠ 10 ∧ e.2.2.2.1 ≠ 57) (hst : st = as.reverse ++ rr) (hlen : as.length = (am_in e.2.2.2.1).2.1) (hcs : am_cs rr ≤ 8) (hrcv : am_rcv e.2.2.2.1 as h = true) (hw : (am_wid as).length ≤ (am_in e.2.2.2.1).2.2.1)
    (q1 : am_ev d e.2.2.2.1 0 (am_ent as (am_in e.2.2.2.1).2.2.1) [] h (some (.retAddr (a + 1)), h2)) (hk : (am_in e.2.2.2.1).2.2.2 = 0) (hy : 0 < y) (ha : am_isO h2 a 12 = true) (hh : am_ctc (am_hh y) pc = none) : am_ev (d + 1) y pc ls st h (some (.retAddr (a + 1)), h2) := by
  obtain ⟨n1, q1⟩ := q1
  refine am_ev.one ⟨n1, ?_⟩
  have g := am_cal_gen (y := y) (pc := pc) (ls := ls) nz hst hlen hcs hrcv hw q1
  have hb : Nat.blt 0 y = true := Nat.ble_eq_true_of_le hy
  simp only [am_isT, hk, am_thr, ha, hb, hh, Bool.and_self, cond_true, Nat.beq_refl] at g
  unfold am_one
  rw [show (bif Nat.blt y am_NM && Nat.blt pc (am_bd y) then am_code y pc else none) = some e from hc]
  rcases hi with ⟨j, e1⟩ | ⟨j, e1⟩ | ⟨j, e1⟩ <;> (simp only [e1]; exact g)
/-- a step that is no call, no return and no throw -/
theorem am_ev.step {e : am_E} {pc' : Nat} {ls' st' : List Value} {h' : am_H} (hc : am_at y pc e) (hs : am_st e pc ls st h = some (pc', ls', st', h')) (q : am_ev d y pc' ls' st' h' x) : am_ev d y pc ls st h x := by
  obtain ⟨n, q⟩ := q
  refine am_ev.one ⟨n, ?_⟩
  unfold am_one
  rw [show (bif Nat.blt y am_NM && Nat.blt pc (am_bd y) then am_code y pc else none) = some e from hc]
  dsimp only
  split
  · rename_i hi
    simp [am_st, hi] at hs
  · rename_i hi
    simp [am_st, hi] at hs
  · rename_i hi
    simp [am_st, hi] at hs
  · rename_i hi
    simp [am_st, hi] at hs
  · rename_i hi
    simp [am_st, hi] at hs
  · rename_i hi
    simp [am_st, hi] at hs
  · rename_i hi
    simp [am_st, hi] at hs
  · rename_i hi
    simp [am_st, hi] at hs
  · rw [hs]
    exact q
theorem am_ev.reti {e : am_E} {v : Int32} (hc : am_at y pc e) (he : e.1 = .ireturn) (hv : am_rok (am_rt y) v = true) : am_ev d y pc ls [.int v] h (some (.int v), h) := by
  refine am_ev.one ⟨0, ?_⟩
  unfold am_one
  rw [show (bif Nat.blt y am_NM && Nat.blt pc (am_bd y) then am_code y pc else none) = some e from hc]
  simp only [he, hv, cond_true]
theorem am_ev.retl {e : am_E} {v : Int64} (hc : am_at y pc e) (he : e.1 = .lreturn) : am_ev d y pc ls [.long v] h (some (.long v), h) := by
  refine am_ev.one ⟨0, ?_⟩
  unfold am_one
  rw [show (bif Nat.blt y am_NM && Nat.blt pc (am_bd y) then am_code y pc else none) = some e from hc]
  simp only [he]
theorem am_ev.reta {e : am_E} {a : Nat} (hc : am_at y pc e) (he : e.1 = .areturn) : am_ev d y pc ls [.ref a] h (some (.ref a), h) := by
  refine am_ev.one ⟨0, ?_⟩
  unfold am_one
  rw [show (bif Nat.blt y am_NM && Nat.blt pc (am_bd y) then am_code y pc else none) = some e from hc]
  simp only [he]
theorem am_ev.retn {e : am_E} (hc : am_at y pc e) (he : e.1 = .areturn) : am_ev d y pc ls [.null] h (some .null, h) := by
  refine am_ev.one ⟨0, ?_⟩
  unfold am_one
  rw [show (bif Nat.blt y am_NM && Nat.blt pc (am_bd y) then am_code y pc else none) = some e from hc]
  simp only [he]
theorem am_ev.retv {e : am_E} (hc : am_at y pc e) (he : e.1 = .return_) : am_ev d y pc ls [] h (none, h) := by
  refine am_ev.one ⟨0, ?_⟩
  unfold am_one
  rw [show (bif Nat.blt y am_NM && Nat.blt pc (am_bd y) then am_code y pc else none) = some e from hc]
  simp only [he]
/-- a throw with a handler at its place, and one without -/
theorem am_ev.thrC {e : am_E} {a hp : Nat} {rr : List Value} (hc : am_at y pc e) (he : e.1 = .athrow) (hy : 0 < y) (ha : am_isO h a 12 = true) (hh : am_ctc (am_hh y) pc = some hp) (q : am_ev d y hp ls [.ref a] h x) : am_ev d y pc ls (.ref a :: rr) h x := by
  obtain ⟨n, q⟩ := q
  refine am_ev.one ⟨n, ?_⟩
  have hb : Nat.blt 0 y = true := Nat.ble_eq_true_of_le hy
  unfold am_one
  rw [show (bif Nat.blt y am_NM && Nat.blt pc (am_bd y) then am_code y pc else none) = some e from hc]
  simp only [he, am_thr, ha, hb, hh, Bool.and_self, cond_true]
  exact q
theorem am_ev.thrT {e : am_E} {a : Nat} {rr : List Value} (hc : am_at y pc e) (he : e.1 = .athrow) (hy : 0 < y) (ha : am_isO h a 12 = true) (hh : am_ctc (am_hh y) pc = none) : am_ev d y pc ls (.ref a :: rr) h (some (.retAddr (a + 1)), h) := by
  refine am_ev.one ⟨0, ?_⟩
  have hb : Nat.blt 0 y = true := Nat.ble_eq_true_of_le hy
  unfold am_one
  rw [show (bif Nat.blt y am_NM && Nat.blt pc (am_bd y) then am_code y pc else none) = some e from hc]
  simp only [he, am_thr, ha, hb, hh, Bool.and_self, cond_true]
theorem am_ev.sp {e : am_E} (hc : am_at y pc e) (hi : am_isC e.1) (q : ∃ n, am_cal (am_run n) d y pc ls st h e = some x) : am_ev d y pc ls st h x := by
  obtain ⟨n, q⟩ := q
  refine am_ev.one ⟨n, ?_⟩
  unfold am_one
  rw [show (bif Nat.blt y am_NM && Nat.blt pc (am_bd y) then am_code y pc else none) = some e from hc]
  rcases hi with ⟨j, e1⟩ | ⟨j, e1⟩ | ⟨j, e1⟩ <;> (simp only [e1]; exact q)
theorem am_ev.obj {e : am_E} {k : Nat} {rr : List Value} (hc : am_at y pc e) (hi : am_isC e.1) (hz : e.2.2.2.1 = 1000) (hcs : am_cs rr ≤ 8) (q : am_ev (d + 1) y (pc + 3) ls rr h x) : am_ev (d + 1) y pc ls (.ref k :: rr) h x := by
  obtain ⟨n, q⟩ := q
  refine am_ev.sp hc hi ⟨n, ?_⟩
  have c3 : Nat.ble (am_cs rr) 8 = true := Nat.ble_eq_true_of_le hcs
  unfold am_cal am_cal0
  rw [hz]
  simp only [show Nat.beq 1000 1003 = false from rfl, show Nat.beq 1000 1004 = false from rfl, show Nat.beq 1000 1000 = true from rfl, Bool.or_self, cond_true, cond_false, c3]
  exact q
theorem am_ev.stop {e : am_E} {k : Nat} {rr : List Value} (hc : am_at y pc e) (hi : am_isC e.1) (hz : e.2.2.2.1 = 1002) (hcs : am_cs rr ≤ 8) (hk : am_isO h k 12 = true) (hd : 3 ≤ d) (q : am_ev (d + 1) y (pc + 3) ls rr (am_stop h k) x) : am_ev (d + 1) y pc ls (.ref k :: rr) h x := by
  obtain ⟨n, q⟩ := q
  refine am_ev.sp hc hi ⟨n, ?_⟩
  have c3 : Nat.ble (am_cs rr) 8 = true := Nat.ble_eq_true_of_le hcs
  have c4 : Nat.ble 3 d = true := Nat.ble_eq_true_of_le hd
  unfold am_cal am_cal0
  rw [hz]
  simp only [show Nat.beq 1002 1003 = false from rfl, show Nat.beq 1002 1004 = false from rfl, show Nat.beq 1002 1000 = false from rfl, show Nat.beq 1002 1001 = false from rfl, show Nat.beq 1002 1002 = true from rfl, Bool.or_self, Bool.and_self, cond_true, cond_false, c3, c4, hk]
  exact q
theorem am_ev.max {e : am_E} {a b : Int32} {rr : List Value} (hc : am_at y pc e) (hi : am_isC e.1) (hz : e.2.2.2.1 = 10) (hb : e.2.2.2.2.1 = 0) (hcs : am_cs rr ≤ 8) (q : am_ev (d + 1) y (pc + 3) ls (.int (if a < b then b else a) :: rr) h x) : am_ev (d + 1) y pc ls (.int b :: .int a :: rr) h x := by
  obtain ⟨n, q⟩ := q
  refine am_ev.sp hc hi ⟨n, ?_⟩
  have c3 : Nat.ble (am_cs rr) 8 = true := Nat.ble_eq_true_of_le hcs
  unfold am_cal am_cal0
  rw [hz, hb]
  simp only [show Nat.beq 10 1003 = false from rfl, show Nat.beq 10 1004 = false from rfl, show Nat.beq 10 1000 = false from rfl, show Nat.beq 10 1001 = false from rfl, show Nat.beq 10 1002 = false from rfl, show Nat.beq 10 10 = true from rfl, show Nat.beq 0 0 = true from rfl, Bool.or_self, Bool.and_self, cond_true, cond_false, c3]
  exact q
theorem am_ev.min {e : am_E} {a b : Int32} {rr : List Value} (hc : am_at y pc e) (hi : am_isC e.1) (hz : e.2.2.2.1 = 57) (hb : e.2.2.2.2.1 = 0) (hcs : am_cs rr ≤ 8) (q : am_ev (d + 1) y (pc + 3) ls (.int (if b < a then b else a) :: rr) h x) : am_ev (d + 1) y pc ls (.int b :: .int a :: rr) h x := by
  obtain ⟨n, q⟩ := q
  refine am_ev.sp hc hi ⟨n, ?_⟩
  have c3 : Nat.ble (am_cs rr) 8 = true := Nat.ble_eq_true_of_le hcs
  unfold am_cal am_cal0
  rw [hz, hb]
  simp only [show Nat.beq 57 1003 = false from rfl, show Nat.beq 57 1004 = false from rfl, show Nat.beq 57 1000 = false from rfl, show Nat.beq 57 1001 = false from rfl, show Nat.beq 57 1002 = false from rfl, show Nat.beq 57 10 = false from rfl, show Nat.beq 57 57 = true from rfl, show Nat.beq 0 0 = true from rfl, Bool.or_self, Bool.and_self, cond_true, cond_false, c3]
  exact q
theorem am_ev.copy {e : am_E} {n0 dp sp : Int32} {a b : Nat} {rr : List Value} {h2 : am_H} (hc : am_at y pc e) (hi : am_isC e.1) (hz : e.2.2.2.1 = 1001) (hcs : am_cs rr ≤ 8) (hcp : am_cp h a sp b dp n0 = some h2) (q : am_ev (d + 1) y (pc + 3) ls rr h2 x) : am_ev (d + 1) y pc ls (.int n0 :: .int dp :: .ref b :: .int sp :: .ref a :: rr) h x := by
  obtain ⟨n, q⟩ := q
  refine am_ev.sp hc hi ⟨n, ?_⟩
  have c3 : Nat.ble (am_cs rr) 8 = true := Nat.ble_eq_true_of_le hcs
  unfold am_cal am_cal0
  rw [hz]
  simp only [show Nat.beq 1001 1003 = false from rfl, show Nat.beq 1001 1004 = false from rfl, show Nat.beq 1001 1000 = false from rfl, show Nat.beq 1001 1001 = true from rfl, Bool.or_self, cond_true, cond_false, c3, hcp]
  exact q
theorem am_ev.len {e : am_E} {i : Nat} {rr : List Value} (hc : am_at y pc e) (hi : am_isC e.1) (hz : e.2.2.2.1 = 1003) (hk : i < 16) (hcs : am_cs rr ≤ 8) (hd : 2 ≤ d) (hM : am_sM e.1 (am_in y).1 1003 = true) (q : am_ev (d + 1) y (pc + 3) ls (.int (Int32.ofNat (am_slen i)) :: rr) h x) : am_ev (d + 1) y pc ls (.ref (7 + i) :: rr) h x := by
  obtain ⟨n, q⟩ := q
  refine am_ev.sp hc hi ⟨n, ?_⟩
  have c1 : Nat.ble 7 (7 + i) = true := Nat.ble_eq_true_of_le (by omega)
  have c2 : Nat.blt (7 + i) 23 = true := Nat.ble_eq_true_of_le (by omega)
  have c3 : Nat.ble (am_cs rr) 8 = true := Nat.ble_eq_true_of_le hcs
  have c4 : Nat.ble 2 d = true := Nat.ble_eq_true_of_le hd
  unfold am_cal am_cas
  rw [hz]
  simp only [show Nat.beq 1003 1003 = true from rfl, Bool.true_or, Bool.and_self, cond_true, c1, c2, c3, c4, hM, Nat.add_sub_cancel_left]
  exact q
theorem am_ev.chr {e : am_E} {i : Nat} {j : Int32} {rr : List Value} (hc : am_at y pc e) (hi : am_isC e.1) (hz : e.2.2.2.1 = 1004) (hk : i < 16) (hcs : am_cs rr ≤ 8) (hd : 4 ≤ d) (hM : am_sM e.1 (am_in y).1 1004 = true) (hj : 0 ≤ j) (hj1 : j.toNatClampNeg < am_slen i) (q : am_ev (d + 1) y (pc + 3) ls (.int (Int32.ofNat (am_sch i j.toNatClampNeg)) :: rr) h x) : am_ev (d + 1) y pc ls (.int j :: .ref (7 + i) :: rr) h x := by
  obtain ⟨n, q⟩ := q
  refine am_ev.sp hc hi ⟨n, ?_⟩
  have c1 : Nat.ble 7 (7 + i) = true := Nat.ble_eq_true_of_le (by omega)
  have c2 : Nat.blt (7 + i) 23 = true := Nat.ble_eq_true_of_le (by omega)
  have c3 : Nat.ble (am_cs rr) 8 = true := Nat.ble_eq_true_of_le hcs
  have c4 : Nat.ble 4 d = true := Nat.ble_eq_true_of_le hd
  have c5 : Nat.blt j.toNatClampNeg (am_slen i) = true := Nat.ble_eq_true_of_le hj1
  unfold am_cal am_cas
  rw [hz]
  simp only [show Nat.beq 1004 1003 = false from rfl, show Nat.beq 1004 1004 = true from rfl, Bool.or_true, Bool.and_self, cond_true, cond_false, c1, c2, c3, c4, c5, hM, Nat.add_sub_cancel_left, decide_eq_true hj]
  exact q
/-- a text -/
theorem am_ev.ldc {e : am_E} {idx i : Nat} (hc : am_at y pc e) (he : e.1 = .ldc idx) (hs : am_st e pc ls st h = none) (hr : am_sR (am_in y).1 idx = some i) (q : am_ev d y (pc + 2) ls (.ref (7 + i) :: st) h x) : am_ev d y pc ls st h x := by
  obtain ⟨n, q⟩ := q
  refine am_ev.one ⟨n, ?_⟩
  unfold am_one
  rw [show (bif Nat.blt y am_NM && Nat.blt pc (am_bd y) then am_code y pc else none) = some e from hc]
  simp only [he, hs, am_lds, hr]
  exact q
theorem am_ev.ldcw {e : am_E} {idx i : Nat} (hc : am_at y pc e) (he : e.1 = .ldc_w idx) (hs : am_st e pc ls st h = none) (hr : am_sR (am_in y).1 idx = some i) (q : am_ev d y (pc + 3) ls (.ref (7 + i) :: st) h x) : am_ev d y pc ls st h x := by
  obtain ⟨n, q⟩ := q
  refine am_ev.one ⟨n, ?_⟩
  unfold am_one
  rw [show (bif Nat.blt y am_NM && Nat.blt pc (am_bd y) then am_code y pc else none) = some e from hc]
  simp only [he, hs, am_lds, hr]
  exact q
end AMW
/-- the law's walk out of a run of the plain machine -/
theorem am_lawE {p : Program} {e : Env} {s : State} {m : MethodId} {below : List Frame} {meth : Method} {c : Code} (l : Launch) {b L : Nat} {xs : Nat → Int32} (C0 : lw_At p s m meth c b L xs) (q : ∃ h' : am_H, am_ev 1300 0 0 (am_ent [.ref 0] 4) [] (am_h0 L xs) (some (.int 1), h') ∧ h'.1 ≤ 601064 ∧ h'.2.1 ≤ 7293034) : W p l e room_1 s m #[Value.ref b] below meth c s.heap [] 0 0 (lw_Z below #[Value.ref b] s) (entryFrame m ([Value.ref b] : List Value).toArray 4) := by
  obtain ⟨h', ⟨n, q⟩, h1, h2⟩ := q
  exact am_law l C0 (n := n) (d := 1300) (h' := h') (Nat.le_refl _) q h1 h2
/-- a method's contract: from arguments and a heap that meet P it comes, at any depth of at least D, to an answer and a heap that meet Q -/
def am_Ct (D y : Nat) (P : List Value → am_H → Prop) (Q : List Value → am_H → Option Value → am_H → Prop) : Prop :=
  ∀ d as h, D ≤ d → P as h → ∃ r h', am_ev d y 0 (am_ent as (am_in y).2.2.1) [] h (r, h') ∧ Q as h r h'
theorem am_Ct.weak {D D' y : Nat} {P P' : List Value → am_H → Prop} {Q Q' : List Value → am_H → Option Value → am_H → Prop} (k : am_Ct D y P Q) (hD : D ≤ D') (hP : ∀ as h, P' as h → P as h) (hQ : ∀ as h r h', P' as h → Q as h r h' → Q' as h r h') : am_Ct D' y P' Q' := fun d as h hd hp => by
  obtain ⟨r, h', q1, q2⟩ := k d as h (Nat.le_trans hD hd) (hP as h hp)
  exact ⟨r, h', q1, hQ as h r h' hp q2⟩
/-- a loop: a place where an invariant holds and a measure goes down comes to its end -/
theorem am_loop {d y pc : Nat} {I : List Value → List Value → am_H → Prop} {G : Option Value × am_H → Prop} (μ : List Value → List Value → am_H → Nat)
    (step : ∀ ls st h, I ls st h → (∀ ls' st' h', I ls' st' h' → μ ls' st' h' < μ ls st h → ∃ x, am_ev d y pc ls' st' h' x ∧ G x) → ∃ x, am_ev d y pc ls st h x ∧ G x) : ∀ ls st h, I ls st h → ∃ x, am_ev d y pc ls st h x ∧ G x := by
  have key : ∀ n ls st h, μ ls st h < n → I ls st h → ∃ x, am_ev d y pc ls st h x ∧ G x := by
    intro n
    induction n with
    | zero => intro ls st h hn; exact absurd hn (Nat.not_lt_zero _)
    | succ n ih =>
      intro ls st h hn hI
      exact step ls st h hI (fun ls' st' h' hI' hlt => ih ls' st' h' (by omega) hI')
  exact fun ls st h hI => key _ ls st h (Nat.lt_succ_self _) hI
