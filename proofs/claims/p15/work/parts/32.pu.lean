/-! THE CHECKER, 8: the steps that leave the heap alone, all of them -/
def cq_k1 (n l u : Int) : Bool := cq_p (n - l) && cq_p (u - n)
def cq_pu (e : am_E) (pc : Nat) (ls st : List cq_A) (S : cq_S) : Option (List cq_O) := match e.1 with
  | .aconst_null => some [(pc + 1, ls, cq_nu :: st, S)]
  | .iconst n => bif cq_k1 n (-32768) 32767 then some [(pc + 1, ls, cq_i (cq_c n) :: st, S)] else none
  | .bipush n => bif cq_k1 n (-128) 127 then some [(pc + 2, ls, cq_i (cq_c n) :: st, S)] else none
  | .sipush n => bif cq_k1 n (-32768) 32767 then some [(pc + 3, ls, cq_i (cq_c n) :: st, S)] else none
  | .lconst n => bif Nat.blt n 100 then some [(pc + 1, ls, cq_l (cq_c n) :: st, S)] else none
  | .ldc _ => bif Nat.beq e.2.2.2.2.1 0 then some [(pc + 2, ls, cq_i (cq_c ((e.2.2.2.1 : Int).bmod (2 ^ 32))) :: st, S)] else none
  | .ldc_w _ => bif Nat.beq e.2.2.2.2.1 0 then some [(pc + 3, ls, cq_i (cq_c ((e.2.2.2.1 : Int).bmod (2 ^ 32))) :: st, S)] else none
  | .ldc2_w _ => some [(pc + 3, ls, cq_l (cq_c ((e.2.2.2.1 : Int).bmod (2 ^ 64))) :: st, S)]
  | .getstatic _ => some [(pc + 3, ls, cq_rc e.2.2.2.1 :: st, S)]
  | .iload i => cq_ld cq_tI i (pc + 2) ls st S
  | .iload_n i => cq_ld cq_tI i.val (pc + 1) ls st S
  | .lload i => cq_ld (fun t => Nat.beq t 2) i (pc + 2) ls st S
  | .lload_n i => cq_ld (fun t => Nat.beq t 2) i.val (pc + 1) ls st S
  | .aload i => cq_ld cq_tR i (pc + 2) ls st S
  | .aload_n i => cq_ld cq_tR i.val (pc + 1) ls st S
  | .istore i => cq_sto cq_tI i (pc + 2) ls st S
  | .istore_n i => cq_sto cq_tI i.val (pc + 1) ls st S
  | .astore i => cq_sto cq_tR i (pc + 2) ls st S
  | .astore_n i => cq_sto cq_tR i.val (pc + 1) ls st S
  | .lstore i => cq_stl i (pc + 2) ls st S
  | .lstore_n i => cq_stl i.val (pc + 1) ls st S
  | .iinc i n => cq_inc i n (pc + 3) ls st S
  | .iadd => cq_b2 (pc + 1) ls st fun f g => some (cq_ai S (cq_add f g))
  | .isub => cq_b2 (pc + 1) ls st fun f g => some (cq_ai S (cq_sub f g))
  | .imul => cq_b2 (pc + 1) ls st fun f g => (match cq_mu f g with
    | some p => some (cq_ai S p)
    | none => some (cq_any S))
  | .iand => cq_b2 (pc + 1) ls st fun f g => some (cq_an S f g)
  | .ishl => cq_b2 (pc + 1) ls st fun f g => some (cq_sl S f g)
  | .ior => cq_b2 (pc + 1) ls st fun _ _ => some (cq_any S)
  | .ixor => cq_b2 (pc + 1) ls st fun _ _ => some (cq_any S)
  | .ishr => cq_b2 (pc + 1) ls st fun _ _ => some (cq_any S)
  | .iushr => cq_b2 (pc + 1) ls st fun _ _ => some (cq_any S)
  | .idiv => cq_b2 (pc + 1) ls st fun _ g => bif cq_nz S g then some (cq_any S) else none
  | .irem => cq_b2 (pc + 1) ls st fun _ g => bif cq_nz S g then some (cq_any S) else none
  | .ladd => cq_l2 (pc + 1) ls st fun f g => some (cq_al S (cq_add f g))
  | .lsub => cq_l2 (pc + 1) ls st fun f g => some (cq_al S (cq_sub f g))
  | .lmul => cq_l2 (pc + 1) ls st fun _ _ => some (cq_anl S)
  | .lor => cq_l2 (pc + 1) ls st fun _ _ => some (cq_anl S)
  | .ldiv => cq_l2 (pc + 1) ls st fun _ g => bif cq_nz S g then some (cq_anl S) else none
  | .lrem => cq_l2 (pc + 1) ls st fun _ g => bif cq_nz S g then some (cq_anl S) else none
  | .lcmp => cq_l2 (pc + 1) ls st fun f g => some (cq_v (cq_sub f g), S)
  | .lshl => (match st with
    | (1, _, _) :: (2, _, _) :: r => some [(pc + 1, ls, (cq_anl S).1 :: r, (cq_anl S).2)]
    | _ => none)
  | .i2l => cq_u1 1 (pc + 1) ls st fun f => (cq_l f, S)
  | .l2i => cq_u1 2 (pc + 1) ls st fun f => cq_ai S f
  | .i2b => cq_u1 1 (pc + 1) ls st fun f => bif cq_in S.P f (-128) 127 then (cq_i f, S) else cq_fi S (-128) 127
  | .dup => (match st with
    | a :: r => bif cq_t1 a.1 then some [(pc + 1, ls, a :: a :: r, S)] else none
    | _ => none)
  | .dup2 => (match st with
    | a :: b :: r => bif cq_t1 a.1 && cq_t1 b.1 then some [(pc + 1, ls, a :: b :: a :: b :: r, S)] else none
    | _ => none)
  | .pop => (match st with
    | a :: r => bif cq_t1 a.1 then some [(pc + 1, ls, r, S)] else none
    | _ => none)
  | .goto _ => some [(e.2.2.1.toNat, ls, st, S)]
  | .ifCond c _ => cq_j1 c e.2.2.1.toNat (pc + 3) ls st S
  | .if_icmp c _ => cq_j2 c e.2.2.1.toNat (pc + 3) ls st S
  | .ifnull _ => cq_j3 e.2.2.1.toNat (pc + 3) ls st S
  | .ifnonnull _ => cq_j3 (pc + 3) e.2.2.1.toNat ls st S
  | .tableswitch d lo hi offs => cq_sw pc d lo hi offs.toList ls st S
  | _ => none
section CQU
variable {m : cq_W} {h0 : am_H} {ρ : Nat → Int} {S : cq_S} {als ast : List cq_A} {ls st : List Value} {h : am_H} {out : List cq_O} {e : am_E} {pc pc' : Nat}
theorem cq_k1_ok {n l u : Int} (q : cq_k1 n l u = true) : l ≤ n ∧ n ≤ u := by
  have q := (Bool.and_eq_true _ _ ▸ q)
  have := cq_p_le q.1
  have := cq_p_le q.2
  omega
theorem cq_push {a : cq_A} {v : Value} (H : cq_Rb m h0 ρ S als ast ls st h) (K : ∀ ρ', cq_ag S.n ρ' ρ → cq_g ρ' a v) : cq_Res m h0 ρ S.n [(pc', als, a :: ast, S)] (some (pc', ls, v :: st, h)) := cq_keep rfl fun ρ' x => ⟨(H ρ' x).1, (H ρ' x).2.1, K ρ' x, (H ρ' x).2.2⟩
theorem cq_cat1' {a : cq_A} {v : Value} (K : cq_g ρ a v) (ht : cq_t1 a.1 = true) : v.category = 1 := by
  refine cq_cat1 K ?_ ?_
  · intro q
    rw [q] at ht
    cases ht
  · intro q
    rw [q] at ht
    cases ht
theorem cq_tI_ok {a : cq_A} {v : Value} (ht : cq_tI a.1 = true) (K : cq_g ρ a v) : ∃ x : Int32, v = .int x := by
  obtain ⟨t, f, k⟩ := a
  rcases Bool.or_eq_true _ _ ▸ ht with q | q
  · have e := am_beq q
    dsimp only at e
    subst e
    obtain ⟨x, e, -⟩ := K
    exact ⟨x, e⟩
  · have e := am_beq q
    dsimp only at e
    subst e
    obtain ⟨x, e, -⟩ := K
    exact ⟨x, e⟩
theorem cq_tL_ok {a : cq_A} {v : Value} (ht : Nat.beq a.1 2 = true) (K : cq_g ρ a v) : ∃ x : Int64, v = .long x := by
  obtain ⟨t, f, k⟩ := a
  have e := am_beq ht
  dsimp only at e
  subst e
  obtain ⟨x, e, -⟩ := K
  exact ⟨x, e⟩
theorem cq_tR_ok {a : cq_A} {v : Value} (ht : cq_tR a.1 = true) (K : cq_g ρ a v) : v = .null ∨ ∃ a, v = .ref a := by
  obtain ⟨t, f, k⟩ := a
  exact cq_ref ht K
theorem cq_cmp_s (x y : Int64) : ((lg_cmp x y).toInt < 0 ↔ x.toInt - y.toInt < 0) ∧ ((lg_cmp x y).toInt = 0 ↔ x.toInt - y.toInt = 0) := by
  unfold lg_cmp
  by_cases h1 : x > y
  · rw [if_pos h1]
    have := Int64.lt_iff_toInt_lt.1 h1
    have e : (1 : Int32).toInt = 1 := rfl
    rw [e]
    omega
  · rw [if_neg h1]
    have n1 : ¬ y.toInt < x.toInt := fun z => h1 (Int64.lt_iff_toInt_lt.2 z)
    by_cases h2 : x = y
    · rw [if_pos h2]
      have e : (0 : Int32).toInt = 0 := rfl
      rw [e, h2]
      omega
    · rw [if_neg h2]
      have n2 : x.toInt ≠ y.toInt := fun z => h2 (Int64.toInt_inj.1 z)
      have e : (-1 : Int32).toInt = -1 := rfl
      rw [e]
      omega
theorem cq_u1_ok {t : Nat} {F : cq_F → cq_A × cq_S} {f : cq_F} {k : Nat} {r : List cq_A} {v w : Value} {rs : List Value} (H : cq_Rb m h0 ρ S als ((t, f, k) :: r) ls (v :: rs) h) (hF : cq_Mk m h0 ρ S h (F f) w) : cq_Res m h0 ρ S.n [(pc', als, (F f).1 :: r, (F f).2)] (some (pc', ls, w :: rs, h)) :=
  hF.res fun ρ' a => ⟨(H ρ' a).2.1, (H ρ' a).2.2.2⟩
theorem cq_inc_ok {i : Nat} {n : Int} (he : e.1 = .iinc i n) (H : cq_Rb m h0 ρ S als ast ls st h) (q : cq_inc i n (pc + 3) als ast S = some out) : cq_Res m h0 ρ S.n out (am_st e pc ls st h) := by
  unfold cq_inc at q
  split at q
  · rename_i f k ha
    cases hb : cq_p (n + 32768) && cq_p (32767 - n) with
    | false => rw [hb] at q; cases q
    | true =>
      rw [hb] at q
      rw [← Option.some.inj q]
      have hb := (Bool.and_eq_true _ _ ▸ hb)
      have b1 := cq_p_le hb.1
      have b2 := cq_p_le hb.2
      obtain ⟨v, hv, -⟩ := cq_gs_get (H ρ cq_ag.rf).2.1 ha
      have K : ∀ ρ', cq_ag S.n ρ' ρ → cq_g ρ' (1, f, k) v := fun ρ' x => by
        obtain ⟨w, hw, hg⟩ := cq_gs_get (H ρ' x).2.1 ha
        rw [hv] at hw
        rw [Option.some.inj hw]
        exact hg
      obtain ⟨x, e1, hx⟩ := cq_int K
      subst e1
      simp only [am_st, he, hv]
      have e2 : (Int32.ofInt n).toInt = n := Int32.toInt_ofInt_of_le (by omega) (by omega)
      obtain ⟨hn, ρ1, a1, k1⟩ := cq_ai_ok (m := m) (h0 := h0) (ρ := ρ) (S := S) (h := h) (f := cq_ac f n) (x := x + Int32.ofInt n) fun ρ' a => ⟨(H ρ' a).1, by rw [Int32.toInt_add, e2, cq_ac_e, hx ρ' a]⟩
      refine ⟨_, rfl, _, List.mem_cons_self, rfl, hn, ρ1, a1, fun ρ' a => ?_⟩
      obtain ⟨D, g⟩ := k1 ρ' a
      have a2 : cq_ag S.n ρ' ρ := (a.lt hn).tr a1
      exact ⟨D, cq_set1_ok (H ρ' a2).2.1 g i, (H ρ' a2).2.2⟩
  · cases q
end CQU
