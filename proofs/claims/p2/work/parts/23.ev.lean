/-! RUNS OF THE PLAIN MACHINE: more fuel does no harm; rules for runs -/
def am_lew (rc rc' : am_F) : Prop := ∀ d y pc ls st h x, rc d y pc ls st h = some x → rc' d y pc ls st h = some x
section AMV
variable {rc rc' : am_F} {d y pc : Nat} {ls st : List Value} {h : am_H} {x : Option Value × am_H}
theorem am_thr_mono (hr : am_lew rc rc') {a : Nat} (q : am_thr rc d y pc ls a h = some x) : am_thr rc' d y pc ls a h = some x := by
  unfold am_thr at q ⊢
  simp only [cond_eq_ite] at q ⊢
  split at q
  · rename_i hc
    rw [if_pos hc]
    split at q
    · rename_i hp he
      try simp only [he]
      exact hr _ _ _ _ _ _ _ q
    · rename_i he
      try simp only [he]
      exact q
  · cases q
theorem am_lds_mono (hr : am_lew rc rc') {e : am_E} (q : am_lds rc d y pc ls st h e = some x) : am_lds rc' d y pc ls st h e = some x := by
  unfold am_lds at q ⊢
  split at q
  · rename_i idx hi
    try simp only [hi]
    split at q
    · rename_i i hs
      try simp only [hs]
      exact hr _ _ _ _ _ _ _ q
    · cases q
  · rename_i idx hi
    try simp only [hi]
    split at q
    · rename_i i hs
      try simp only [hs]
      exact hr _ _ _ _ _ _ _ q
    · cases q
  · cases q
theorem am_cas_mono (hr : am_lew rc rc') {e : am_E} (q : am_cas rc d y pc ls st h e = some x) : am_cas rc' d y pc ls st h e = some x := by
  unfold am_cas at q ⊢
  split at q
  · cases q
  · rename_i d'
    simp only [cond_eq_ite] at q ⊢
    split at q
    · rename_i hz
      rw [if_pos hz]
      split at q
      · split at q
        · rename_i hc
          try dsimp only
          rw [if_pos hc]
          exact hr _ _ _ _ _ _ _ q
        · cases q
      · cases q
    · rename_i hz
      rw [if_neg hz]
      split at q
      · split at q
        · rename_i hc
          try dsimp only
          rw [if_pos hc]
          exact hr _ _ _ _ _ _ _ q
        · cases q
      · cases q
theorem am_cal0_mono (hr : am_lew rc rc') {e : am_E} (q : am_cal0 rc d y pc ls st h e = some x) : am_cal0 rc' d y pc ls st h e = some x := by
  unfold am_cal0 at q ⊢
  split at q
  · cases q
  · rename_i d'
    simp only [cond_eq_ite] at q ⊢
    split at q
    · rename_i hz
      rw [if_pos hz]
      split at q
      · split at q
        · rename_i hc
          try dsimp only
          rw [if_pos hc]
          exact hr _ _ _ _ _ _ _ q
        · cases q
      · cases q
    · rename_i hz
      rw [if_neg hz]
      split at q
      · rename_i hz
        rw [if_pos hz]
        split at q
        · split at q
          · rename_i hc
            try dsimp only
            rw [if_pos hc]
            split at q
            · rename_i h2 hcp
              try simp only [hcp]
              exact hr _ _ _ _ _ _ _ q
            · cases q
          · cases q
        · cases q
      · rename_i hz
        rw [if_neg hz]
        split at q
        · rename_i hz
          rw [if_pos hz]
          split at q
          · split at q
            · rename_i hc
              try dsimp only
              rw [if_pos hc]
              exact hr _ _ _ _ _ _ _ q
            · cases q
          · cases q
        · rename_i hz
          rw [if_neg hz]
          split at q
          · rename_i hz
            rw [if_pos hz]
            split at q
            · split at q
              · rename_i hc
                try dsimp only
                rw [if_pos hc]
                exact hr _ _ _ _ _ _ _ q
              · cases q
            · cases q
          · rename_i hz
            rw [if_neg hz]
            split at q
            · rename_i hz
              rw [if_pos hz]
              split at q
              · split at q
                · rename_i hc
                  try dsimp only
                  rw [if_pos hc]
                  exact hr _ _ _ _ _ _ _ q
                · cases q
              · cases q
            · rename_i hz
              rw [if_neg hz]
              split at q
              · rename_i hc
                rw [if_pos hc]
                split at q
                · rename_i v h2 he
                  have he2 := hr _ _ _ _ _ _ _ he
                  try simp only [he2]
                  split at q
                  · rename_i a ha
                    try simp only [ha]
                    split at q
                    · rename_i hk
                      rw [if_pos hk]
                      exact am_thr_mono hr q
                    · cases q
                  · rename_i ha
                    try simp only [ha]
                    exact hr _ _ _ _ _ _ _ q
                · cases q
              · cases q
theorem am_cal_mono (hr : am_lew rc rc') {e : am_E} (q : am_cal rc d y pc ls st h e = some x) : am_cal rc' d y pc ls st h e = some x := by
  unfold am_cal at q ⊢
  simp only [cond_eq_ite] at q ⊢
  split at q
  · rename_i hz
    rw [if_pos hz]
    exact am_cas_mono hr q
  · rename_i hz
    rw [if_neg hz]
    exact am_cal0_mono hr q
theorem am_one_mono (hr : am_lew rc rc') (q : am_one rc d y pc ls st h = some x) : am_one rc' d y pc ls st h = some x := by
  unfold am_one at q ⊢
  split at q
  · cases q
  · rename_i e hc
    try simp only [hc]
    split at q
    · rename_i hi
      try simp only [hi]
      exact q
    · rename_i hi
      try simp only [hi]
      exact q
    · rename_i hi
      try simp only [hi]
      exact q
    · rename_i hi
      try simp only [hi]
      exact q
    · rename_i hi
      try simp only [hi]
      split at q
      · exact am_thr_mono hr q
      · cases q
    · rename_i i hi
      try simp only [hi]
      exact am_cal_mono hr q
    · rename_i i hi
      try simp only [hi]
      exact am_cal_mono hr q
    · rename_i i hi
      try simp only [hi]
      exact am_cal_mono hr q
    · split at q
      · rename_i hs
        try simp only [hs]
        exact hr _ _ _ _ _ _ _ q
      · rename_i hs
        try simp only [hs]
        exact am_lds_mono hr q
end AMV
theorem am_run_up : ∀ n, am_lew (am_run n) (am_run (n + 1))
  | 0 => fun _ _ _ _ _ _ _ q => by cases q
  | n + 1 => fun d y pc ls st h x q => by
    rw [am_run_s] at q ⊢
    exact am_one_mono (am_run_up n) q
theorem am_run_le {n k d y pc : Nat} {ls st : List Value} {h : am_H} {x : Option Value × am_H} (hk : n ≤ k) (q : am_run n d y pc ls st h = some x) : am_run k d y pc ls st h = some x := by
  induction hk with
  | refl => exact q
  | step _ ih => exact am_run_up _ _ _ _ _ _ _ _ ih
/-- the machine comes from a place to an answer -/
def am_ev (d y pc : Nat) (ls st : List Value) (h : am_H) (x : Option Value × am_H) : Prop := ∃ n, am_run n d y pc ls st h = some x
section AMW
variable {d y pc : Nat} {ls st : List Value} {h : am_H} {x : Option Value × am_H}
theorem am_ev.one (q : ∃ n, am_one (am_run n) d y pc ls st h = some x) : am_ev d y pc ls st h x := by
  obtain ⟨n, q⟩ := q
  exact ⟨n + 1, by rw [am_run_s]; exact q⟩
end AMW
