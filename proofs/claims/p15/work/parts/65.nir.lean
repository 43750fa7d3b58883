/-! runs of methods that only read -/
theorem ni_sp {z : Nat} (q : ni_M z = true) : Nat.beq z 1000 = false ∧ Nat.beq z 1001 = false ∧ Nat.beq z 1002 = false ∧ Nat.beq z 1003 = false ∧ Nat.beq z 1004 = false ∧ Nat.beq z 10 = false ∧ Nat.beq z 57 = false := by
  have := ni_M_mem q
  simp only [List.mem_cons, List.not_mem_nil, or_false] at this
  rcases this with h | h | h | h | h | h | h | h | h <;> subst h <;> decide
theorem ni_ent {as : List Value} {mx : Nat} (q : ni_L as) : ni_L (am_ent as mx) := by
  intro v hv
  unfold am_ent at hv
  rcases List.mem_append.1 hv with z | z
  · unfold am_wid at z
    obtain ⟨w, hw, hz⟩ := List.mem_flatMap.1 z
    rw [cond_eq_ite] at hz
    split at hz
    · rcases List.mem_cons.1 hz with y | y
      · rw [y]; exact q w hw
      · rw [List.mem_singleton.1 y]; exact ni_v_ph
    · rw [List.mem_singleton.1 hz]; exact q w hw
  · rw [(List.mem_replicate.1 z).2]
    exact ni_v_ph
theorem ni_rcv {h h2 : am_H} (R : ni_R h h2) (z : Nat) (as : List Value) : am_rcv z as h2 = am_rcv z as h := by
  unfold am_rcv
  split
  · rfl
  · rfl
  · split
    · exact ni_isO R _ _
    · rfl
def ni_P (n : Nat) : Prop := ∀ d y pc ls st h x, ni_M y = true → cq_Inv none h → ni_L ls → ni_L st → am_run n d y pc ls st h = some x → x.2 = h ∧ (∃ v : Int32, x.1 = some (.int v)) ∧ ∀ h2 d2, ni_R h h2 → d ≤ d2 → am_run n d2 y pc ls st h2 = some (x.1, h2)
theorem ni_cal {n : Nat} (ih : ni_P n) {d y pc : Nat} {ls st : List Value} {h : am_H} {x : Option Value × am_H} {e : am_E} (hy : ni_M y = true) (hz : ni_M e.2.2.2.1 = true) (I : cq_Inv none h) (hl : ni_L ls) (hs : ni_L st) (q : am_cal (am_run n) d y pc ls st h e = some x) : x.2 = h ∧ (∃ v : Int32, x.1 = some (.int v)) ∧ ∀ h2 d2, ni_R h h2 → d ≤ d2 → am_cal (am_run n) d2 y pc ls st h2 e = some (x.1, h2) := by
  obtain ⟨s1, s2, s3, s4, s5, s6, s7⟩ := ni_sp hz
  unfold am_cal at q ⊢
  rw [s4, s5] at q ⊢
  simp only [Bool.or_self, cond_false] at q ⊢
  unfold am_cal0 at q ⊢
  cases d with
  | zero => cases q
  | succ d =>
    simp only [s1, s2, s3, s6, s7, cond_false] at q ⊢
    generalize hz1 : e.2.2.2.1 = z at q hz ⊢
    rw [cond_eq_ite] at q
    split at q
    · rename_i hb
      split at q
      · rename_i v h' hv
        have has : ni_L (st.take (am_in z).2.1).reverse := fun w hw => hs w (List.mem_of_mem_take (List.mem_reverse.1 hw))
        obtain ⟨e1, ⟨w, e2⟩, k⟩ := ih d z 0 _ [] h (v, h') hz I (ni_ent has) (fun _ hw => by cases hw) hv
        dsimp only at e1 e2 k
        subst e1
        subst e2
        have q : am_run n (d + 1) y (pc + 3) ls (.int w :: st.drop (am_in z).2.1) h' = some x := q
        obtain ⟨f1, f2, k2⟩ := ih (d + 1) y (pc + 3) ls _ h' x hy I hl (ni_L.int fun w hw => hs w (List.mem_of_mem_drop hw)) q
        refine ⟨f1, f2, fun h2 d2 R hd => ?_⟩
        cases d2 with
        | zero => exact absurd hd (Nat.not_succ_le_zero _)
        | succ d2 =>
          simp only [s1, s2, s3, s6, s7, cond_false]
          rw [ni_rcv R, hb]
          simp only [cond_true]
          rw [k h2 d2 R (Nat.le_of_succ_le_succ hd)]
          show am_run n (d2 + 1) y (pc + 3) ls (.int w :: st.drop (am_in z).2.1) h2 = _
          exact k2 h2 (d2 + 1) R hd
      · cases q
    · cases q
theorem ni_run : ∀ n, ni_P n
  | 0 => fun _ _ _ _ _ _ _ _ _ _ _ q => by cases q
  | n + 1 => fun d y pc ls st h x hy I hl hs q => by
    have ih := ni_run n
    rw [am_run_s] at q
    have goal : x.2 = h ∧ (∃ v : Int32, x.1 = some (.int v)) ∧ ∀ h2 d2, ni_R h h2 → d ≤ d2 → am_one (am_run n) d2 y pc ls st h2 = some (x.1, h2) := by
      unfold am_one at q ⊢
      split at q
      · cases q
      · rename_i e hc
        have hp : pc < am_bd y ∧ am_code y pc = some e := by
          cases hb : Nat.blt y am_NM && Nat.blt pc (am_bd y) with
          | false => rw [hb] at hc; cases hc
          | true =>
            rw [hb] at hc
            exact ⟨Nat.le_of_ble_eq_true (Bool.and_eq_true _ _ ▸ hb).2, hc⟩
        have ok := ni_code hy hp.1 hp.2
        try simp only [hc]
        split at q
        · rename_i hi
          try simp only [hi]
          split at q
          · rename_i v
            rw [cond_eq_ite] at q
            split at q
            · rename_i hr
              cases q
              refine ⟨rfl, ⟨v, rfl⟩, fun h2 d2 _ _ => ?_⟩
              rw [hr]
              rfl
            · cases q
          · cases q
        · rename_i hi
          exfalso
          unfold ni_i at ok
          rw [hi] at ok
          cases ok
        · rename_i hi
          exfalso
          unfold ni_i at ok
          rw [hi] at ok
          cases ok
        · rename_i hi
          exfalso
          unfold ni_i at ok
          rw [hi] at ok
          cases ok
        · rename_i hi
          exfalso
          unfold ni_i at ok
          rw [hi] at ok
          cases ok
        · rename_i i hi
          try simp only [hi]
          unfold ni_i at ok
          rw [hi] at ok
          exact ni_cal ih hy ok I hl hs q
        · rename_i i hi
          try simp only [hi]
          unfold ni_i at ok
          rw [hi] at ok
          exact ni_cal ih hy ok I hl hs q
        · rename_i i hi
          exfalso
          unfold ni_i at ok
          rw [hi] at ok
          cases ok
        · rename_i n1 n2 n3 n4 n5 n6 n7 n8
          split at q
          · rename_i pc' ls' st' h' hst
            obtain ⟨e1, l1, l2, k⟩ := ni_st ok I hl hs hst
            dsimp only at e1 l1 l2 k
            subst e1
            obtain ⟨f1, f2, k2⟩ := ih d y pc' ls' st' h' x hy I l1 l2 q
            refine ⟨f1, f2, fun h2 d2 R hd => ?_⟩
            simp only [k h2 R]
            exact k2 h2 d2 R hd
          · rename_i hst
            exfalso
            unfold am_lds at q
            split at q
            · rename_i idx hi
              unfold ni_i at ok
              rw [hi] at ok
              cases ok
            · rename_i idx hi
              unfold ni_i at ok
              rw [hi] at ok
              unfold am_st at hst
              rw [hi] at hst
              dsimp only at ok hst
              rw [ok] at hst
              cases hst
            · cases q
    refine ⟨goal.1, goal.2.1, fun h2 d2 R hd => ?_⟩
    rw [am_run_s]
    exact goal.2.2 h2 d2 R hd
