/-! THE CHECKER, 7: steps that leave the heap alone -/
def cq_nl (s : Nat) : List (Nat × Bool) → Option Bool
  | [] => none
  | q :: r => bif Nat.beq q.1 s then some q.2 else cq_nl s r
theorem cq_nl_ok {s : Nat} {b : Bool} : ∀ {N : List (Nat × Bool)}, cq_nl s N = some b → (s, b) ∈ N
  | [], h => by cases h
  | q :: r, h => by
    unfold cq_nl at h
    cases hb : Nat.beq q.1 s with
    | true =>
      rw [hb] at h
      rw [← am_beq hb, ← Option.some.inj h]
      exact List.mem_cons_self
    | false =>
      rw [hb] at h
      exact List.mem_cons_of_mem _ (cq_nl_ok h)
/-- a jump on null: np where it is null, rp where it is not -/
def cq_j3 (np rp : Nat) (ls st : List cq_A) (S : cq_S) : Option (List cq_O) := match st with
  | (4, _, _) :: r => some [(np, ls, r, S)]
  | (5, _, _) :: r => some [(rp, ls, r, S)]
  | (6, _, s) :: r => (match cq_nl s S.N with
    | some true => some [(rp, ls, r, S)]
    | some false => some [(np, ls, r, S)]
    | none => some [(np, ls, r, S.sN ((s, false) :: S.N)), (rp, ls, r, S.sN ((s, true) :: S.N))])
  | _ => none
def cq_swL (f : cq_F) (pc : Nat) (ls r : List cq_A) (S : cq_S) : Int → List Int → List cq_O
  | _, [] => []
  | k, o :: os => cq_opt (cq_aeq S.P (cq_ac f (- k))) ((pc : Int) + o).toNat ls r S ++ cq_swL f pc ls r S (k + 1) os
def cq_sw (pc : Nat) (d lo hi : Int) (offs : List Int) (ls st : List cq_A) (S : cq_S) : Option (List cq_O) := match st with
  | (1, f, _) :: r => bif cq_p (((offs.length : Nat) : Int) - (hi - lo + 1)) then some (cq_swL f pc ls r S lo offs ++ (cq_opt (cq_asm S.P (cq_ac (cq_neg f) (lo - 1))) ((pc : Int) + d).toNat ls r S ++ cq_opt (cq_asm S.P (cq_ac f (- hi - 1))) ((pc : Int) + d).toNat ls r S)) else none
  | _ => none
def cq_ld (ok : Nat → Bool) (i pc' : Nat) (ls st : List cq_A) (S : cq_S) : Option (List cq_O) := match ls[i]? with
  | some a => bif ok a.1 then some [(pc', ls, a :: st, S)] else none
  | none => none
def cq_sto (ok : Nat → Bool) (i pc' : Nat) (ls st : List cq_A) (S : cq_S) : Option (List cq_O) := match st with
  | a :: r => bif ok a.1 && Nat.blt i ls.length then some [(pc', cq_set1 ls i a, r, S)] else none
  | _ => none
def cq_stl (i pc' : Nat) (ls st : List cq_A) (S : cq_S) : Option (List cq_O) := match st with
  | a :: r => bif Nat.beq a.1 2 && Nat.blt (i + 1) ls.length then some [(pc', cq_set2 ls i a, r, S)] else none
  | _ => none
def cq_inc (i : Nat) (n : Int) (pc' : Nat) (ls st : List cq_A) (S : cq_S) : Option (List cq_O) := match ls[i]? with
  | some (1, f, _) => bif cq_p (n + 32768) && cq_p (32767 - n) then some [(pc', cq_set1 ls i (cq_ai S (cq_ac f n)).1, st, (cq_ai S (cq_ac f n)).2)] else none
  | _ => none
def cq_tI (t : Nat) : Bool := Nat.beq t 1 || Nat.beq t 3
def cq_tR (t : Nat) : Bool := Nat.ble 4 t && Nat.ble t 6
def cq_t1 (t : Nat) : Bool := Nat.beq t 1 || Nat.ble 3 t
def cq_b2 (pc' : Nat) (ls st : List cq_A) (F : cq_F → cq_F → Option (cq_A × cq_S)) : Option (List cq_O) := match st with
  | (1, g, _) :: (1, f, _) :: r => (match F f g with
    | some q => some [(pc', ls, q.1 :: r, q.2)]
    | none => none)
  | _ => none
def cq_l2 (pc' : Nat) (ls st : List cq_A) (F : cq_F → cq_F → Option (cq_A × cq_S)) : Option (List cq_O) := match st with
  | (2, g, _) :: (2, f, _) :: r => (match F f g with
    | some q => some [(pc', ls, q.1 :: r, q.2)]
    | none => none)
  | _ => none
def cq_u1 (t pc' : Nat) (ls st : List cq_A) (F : cq_F → cq_A × cq_S) : Option (List cq_O) := match st with
  | (a, f, _) :: r => bif Nat.beq a t then some [(pc', ls, (F f).1 :: r, (F f).2)] else none
  | _ => none
def cq_nz (S : cq_S) (g : cq_F) : Bool := cq_nn S.P.1 (cq_ac g (-1)) || cq_nn S.P.1 (cq_ac (cq_neg g) (-1))
section CQR
variable {m : cq_W} {h0 : am_H} {ρ : Nat → Int} {S : cq_S} {als ast : List cq_A} {ls st : List Value} {h : am_H} {out : List cq_O} {e : am_E} {pc pc' : Nat}
theorem cq_ref {t : Nat} {f : cq_F} {k : Nat} {v : Value} (ht : cq_tR t = true) (K : cq_g ρ (t, f, k) v) : v = .null ∨ ∃ a, v = .ref a := by
  have h1 := (Bool.and_eq_true _ _ ▸ ht)
  have a1 := Nat.le_of_ble_eq_true h1.1
  have a2 := Nat.le_of_ble_eq_true h1.2
  rcases (show t = 4 ∨ t = 5 ∨ t = 6 by omega) with q | q | q
  · subst q; exact Or.inl K
  · subst q; exact Or.inr ⟨_, K⟩
  · subst q
    rcases K with ⟨-, q⟩ | ⟨-, q⟩
    · exact Or.inl q
    · exact Or.inr ⟨_, q⟩
theorem cq_j3_ok {np rp : Nat} (H : cq_Rb m h0 ρ S als ast ls st h) (q : cq_j3 np rp als ast S = some out) : ∃ v rs, st = v :: rs ∧ ((v = .null ∧ cq_Res m h0 ρ S.n out (some (np, ls, rs, h))) ∨ ((∃ a, v = .ref a) ∧ cq_Res m h0 ρ S.n out (some (rp, ls, rs, h)))) := by
  unfold cq_j3 at q
  split at q
  · obtain ⟨v, rs, e1, K, H2⟩ := cq_pop1 H
    have e2 : v = .null := K ρ cq_ag.rf
    rw [← Option.some.inj q]
    exact ⟨v, rs, e1, Or.inl ⟨e2, cq_keep rfl H2⟩⟩
  · obtain ⟨v, rs, e1, K, H2⟩ := cq_pop1 H
    have e2 : v = .ref _ := K ρ cq_ag.rf
    rw [← Option.some.inj q]
    exact ⟨v, rs, e1, Or.inr ⟨⟨_, e2⟩, cq_keep rfl H2⟩⟩
  · rename_i f s r
    obtain ⟨v, rs, e1, K, H2⟩ := cq_pop1 H
    refine ⟨v, rs, e1, ?_⟩
    split at q
    · rename_i hn
      have hs := ((H ρ cq_ag.rf).1.N _ (cq_nl_ok hn)).1 rfl
      rw [← Option.some.inj q]
      rcases K ρ cq_ag.rf with ⟨w, -⟩ | ⟨-, w⟩
      · dsimp only at hs w; omega
      · exact Or.inr ⟨⟨_, w⟩, cq_keep rfl H2⟩
    · rename_i hn
      have hs := ((H ρ cq_ag.rf).1.N _ (cq_nl_ok hn)).2 rfl
      rw [← Option.some.inj q]
      rcases K ρ cq_ag.rf with ⟨-, w⟩ | ⟨w, -⟩
      · exact Or.inl ⟨w, cq_keep rfl H2⟩
      · dsimp only at hs w; omega
    · rw [← Option.some.inj q]
      have kN : ∀ b : Bool, (∀ ρ', cq_ag S.n ρ' ρ → (b = true → 0 ≤ ρ' s) ∧ (b = false → ρ' s < 0)) → ∀ ρ', cq_ag S.n ρ' ρ → cq_Md m h0 ρ' (S.sN ((s, b) :: S.N)) h := fun b kb ρ' a => by
        refine (H ρ' a).1.sN fun x hx => ?_
        rcases List.mem_cons.1 hx with z | z
        · subst z; exact kb ρ' a
        · exact (H ρ' a).1.N x z
      rcases K ρ cq_ag.rf with ⟨-, w⟩ | ⟨-, w⟩
      · refine Or.inl ⟨w, _, rfl, _, List.mem_cons_self, rfl, Nat.le_refl _, ρ, cq_ag.rf, fun ρ' a => ⟨kN false (fun ρ' a => ⟨fun z => (by cases z), fun _ => ?_⟩) ρ' a, (H2 ρ' a).2⟩⟩
        rcases K ρ' a with ⟨z, -⟩ | ⟨-, z⟩
        · exact z
        · rw [w] at z; cases z
      · refine Or.inr ⟨⟨_, w⟩, _, rfl, _, List.mem_cons_of_mem _ List.mem_cons_self, rfl, Nat.le_refl _, ρ, cq_ag.rf, fun ρ' a => ⟨kN true (fun ρ' a => ⟨fun _ => ?_, fun z => (by cases z)⟩) ρ' a, (H2 ρ' a).2⟩⟩
        rcases K ρ' a with ⟨-, z⟩ | ⟨z, -⟩
        · rw [w] at z; cases z
        · exact z
  · cases q
theorem cq_swL_ok {f : cq_F} {r : List cq_A} {rs : List Value} {x : Int} (H : cq_Rb m h0 ρ S als r ls rs h) (hx : ∀ ρ', cq_ag S.n ρ' ρ → x = cq_e ρ' f) : ∀ (offs : List Int) (k : Int) (o : Int), k ≤ x → offs[(x - k).toNat]? = some o → (∀ y ∈ cq_swL f pc als r S k offs, y ∈ out) → cq_Res m h0 ρ S.n out (some (((pc : Int) + o).toNat, ls, rs, h))
  | [], k, o, _, q, _ => by simp at q
  | o' :: os, k, o, hk, q, hi => by
    by_cases e : x = k
    · have e0 : (x - k).toNat = 0 := by omega
      rw [e0] at q
      have q : o' = o := by simpa using q
      subst q
      exact cq_opt_ok H (fun ρ' a => cq_aeq_ok (H ρ' a).1.P (by have := hx ρ' a; rw [cq_ac_e]; omega)) (fun y hy => hi y (List.mem_append_left _ hy))
    · have e1 : (x - k).toNat = (x - (k + 1)).toNat + 1 := by omega
      rw [e1, List.getElem?_cons_succ] at q
      exact cq_swL_ok H hx os (k + 1) o (by omega) q (fun y hy => hi y (List.mem_append_right _ hy))
theorem cq_sw_ok {d lo hi : Int} {offs : Array Int} (he : e.1 = .tableswitch d lo hi offs) (H : cq_Rb m h0 ρ S als ast ls st h) (q : cq_sw pc d lo hi offs.toList als ast S = some out) : cq_Res m h0 ρ S.n out (am_st e pc ls st h) := by
  unfold cq_sw at q
  split at q
  · rename_i f k r
    cases hb : cq_p (((offs.toList.length : Nat) : Int) - (hi - lo + 1)) with
    | false => rw [hb] at q; cases q
    | true =>
      rw [hb] at q
      have q := Option.some.inj q
      have hl := cq_p_le hb
      obtain ⟨v, rs, e1, K, H2⟩ := cq_pop1 H
      subst e1
      obtain ⟨x, e2, hx⟩ := cq_int K
      subst e2
      simp only [am_st, he]
      subst q
      by_cases hc : x.toInt < lo ∨ hi < x.toInt
      · rw [if_pos hc]
        rcases hc with c1 | c1
        · exact cq_opt_ok H2 (fun ρ' a => cq_asm_ok (H2 ρ' a).1.P (by have := hx ρ' a; rw [cq_ac_e, cq_neg_e]; omega)) (fun y hy => List.mem_append_right _ (List.mem_append_left _ hy))
        · exact cq_opt_ok H2 (fun ρ' a => cq_asm_ok (H2 ρ' a).1.P (by have := hx ρ' a; rw [cq_ac_e]; omega)) (fun y hy => List.mem_append_right _ (List.mem_append_right _ hy))
      · rw [if_neg hc]
        have hlt : (x.toInt - lo).toNat < offs.size := by
          have : offs.toList.length = offs.size := Array.length_toList
          omega
        have e3 : offs[(x.toInt - lo).toNat]? = some offs[(x.toInt - lo).toNat] := Array.getElem?_eq_getElem hlt
        rw [e3]
        refine cq_swL_ok H2 hx offs.toList lo _ (by omega) ?_ (fun y hy => List.mem_append_left _ hy)
        rw [Array.getElem?_toList]
        exact e3
  · cases q
theorem cq_ld_ok {ok : Nat → Bool} {i : Nat} (H : cq_Rb m h0 ρ S als ast ls st h) (q : cq_ld ok i pc' als ast S = some out) : ∃ a v, als[i]? = some a ∧ ls[i]? = some v ∧ ok a.1 = true ∧ (∀ ρ', cq_ag S.n ρ' ρ → cq_g ρ' a v) ∧ cq_Res m h0 ρ S.n out (some (pc', ls, v :: st, h)) := by
  unfold cq_ld at q
  split at q
  · rename_i a ha
    cases hb : ok a.1 with
    | false => rw [hb] at q; cases q
    | true =>
      rw [hb] at q
      rw [← Option.some.inj q]
      obtain ⟨v, hv, -⟩ := cq_gs_get (H ρ cq_ag.rf).2.1 ha
      have K : ∀ ρ', cq_ag S.n ρ' ρ → cq_g ρ' a v := fun ρ' x => by
        obtain ⟨w, hw, hg⟩ := cq_gs_get (H ρ' x).2.1 ha
        rw [hv] at hw
        rw [Option.some.inj hw]
        exact hg
      exact ⟨a, v, ha, hv, hb, K, cq_keep rfl fun ρ' x => ⟨(H ρ' x).1, (H ρ' x).2.1, K ρ' x, (H ρ' x).2.2⟩⟩
  · cases q
theorem cq_sto_ok {ok : Nat → Bool} {i : Nat} (H : cq_Rb m h0 ρ S als ast ls st h) (q : cq_sto ok i pc' als ast S = some out) : ∃ a v rs, st = v :: rs ∧ ok a.1 = true ∧ i < ls.length ∧ (∀ ρ', cq_ag S.n ρ' ρ → cq_g ρ' a v) ∧ cq_Res m h0 ρ S.n out (some (pc', am_set1 ls i v, rs, h)) := by
  unfold cq_sto at q
  split at q
  · rename_i a r
    cases hb : ok a.1 && Nat.blt i als.length with
    | false => rw [hb] at q; cases q
    | true =>
      rw [hb] at q
      rw [← Option.some.inj q]
      have hb := (Bool.and_eq_true _ _ ▸ hb)
      obtain ⟨v, rs, e1, K, H2⟩ := cq_pop1 H
      refine ⟨a, v, rs, e1, hb.1, ?_, K, cq_keep rfl fun ρ' x => ⟨(H ρ' x).1, cq_set1_ok (H ρ' x).2.1 (K ρ' x) i, (H2 ρ' x).2.2⟩⟩
      rw [← cq_gs_len (H ρ cq_ag.rf).2.1]
      exact Nat.le_of_ble_eq_true hb.2
  · cases q
theorem cq_stl_ok {i : Nat} (H : cq_Rb m h0 ρ S als ast ls st h) (q : cq_stl i pc' als ast S = some out) : ∃ x rs, st = .long x :: rs ∧ i + 1 < ls.length ∧ cq_Res m h0 ρ S.n out (some (pc', am_set2 ls i (.long x), rs, h)) := by
  unfold cq_stl at q
  split at q
  · rename_i a r
    cases hb : Nat.beq a.1 2 && Nat.blt (i + 1) als.length with
    | false => rw [hb] at q; cases q
    | true =>
      rw [hb] at q
      rw [← Option.some.inj q]
      have hb := (Bool.and_eq_true _ _ ▸ hb)
      obtain ⟨v, rs, e1, K, H2⟩ := cq_pop1 H
      obtain ⟨t, f, k⟩ := a
      have et : t = 2 := am_beq hb.1
      subst et
      obtain ⟨x, e2, -⟩ := cq_lng K
      subst e2
      refine ⟨x, rs, e1, ?_, cq_keep rfl fun ρ' x => ⟨(H ρ' x).1, cq_set2_ok (H ρ' x).2.1 (K ρ' x) i, (H2 ρ' x).2.2⟩⟩
      rw [← cq_gs_len (H ρ cq_ag.rf).2.1]
      exact Nat.le_of_ble_eq_true hb.2
  · cases q
theorem cq_b2_ok {op : Int32 → Int32 → Int32} {C : Int32 → Int32 → Prop} {F : cq_F → cq_F → Option (cq_A × cq_S)} (he : ∀ x y r, C x y → am_st e pc ls (.int y :: .int x :: r) h = some (pc', ls, .int (op x y) :: r, h)) (hF : ∀ f g q x y, F f g = some q → (∀ ρ', cq_ag S.n ρ' ρ → cq_Md m h0 ρ' S h ∧ x.toInt = cq_e ρ' f ∧ y.toInt = cq_e ρ' g) → C x y ∧ cq_Mk m h0 ρ S h q (.int (op x y))) (H : cq_Rb m h0 ρ S als ast ls st h) (q : cq_b2 pc' als ast F = some out) : cq_Res m h0 ρ S.n out (am_st e pc ls st h) := by
  unfold cq_b2 at q
  split at q
  · rename_i g k1 f k2 r
    split at q
    · rename_i w hw
      rw [← Option.some.inj q]
      obtain ⟨v, rs, e1, K1, H1⟩ := cq_pop1 H
      subst e1
      obtain ⟨y, e2, hy⟩ := cq_int K1
      subst e2
      obtain ⟨v, rs, e1, K2, H2⟩ := cq_pop1 H1
      subst e1
      obtain ⟨x, e2, hx⟩ := cq_int K2
      subst e2
      obtain ⟨hC, hM⟩ := hF f g w x y hw fun ρ' a => ⟨(H ρ' a).1, hx ρ' a, hy ρ' a⟩
      rw [he x y rs hC]
      exact hM.res fun ρ' a => (H2 ρ' a).2
    · cases q
  · cases q
theorem cq_l2_ok {op : Int64 → Int64 → Value} {C : Int64 → Int64 → Prop} {F : cq_F → cq_F → Option (cq_A × cq_S)} (he : ∀ x y r, C x y → am_st e pc ls (.long y :: .long x :: r) h = some (pc', ls, op x y :: r, h)) (hF : ∀ f g q x y, F f g = some q → (∀ ρ', cq_ag S.n ρ' ρ → cq_Md m h0 ρ' S h ∧ x.toInt = cq_e ρ' f ∧ y.toInt = cq_e ρ' g) → C x y ∧ cq_Mk m h0 ρ S h q (op x y)) (H : cq_Rb m h0 ρ S als ast ls st h) (q : cq_l2 pc' als ast F = some out) : cq_Res m h0 ρ S.n out (am_st e pc ls st h) := by
  unfold cq_l2 at q
  split at q
  · rename_i g k1 f k2 r
    split at q
    · rename_i w hw
      rw [← Option.some.inj q]
      obtain ⟨v, rs, e1, K1, H1⟩ := cq_pop1 H
      subst e1
      obtain ⟨y, e2, hy⟩ := cq_lng K1
      subst e2
      obtain ⟨v, rs, e1, K2, H2⟩ := cq_pop1 H1
      subst e1
      obtain ⟨x, e2, hx⟩ := cq_lng K2
      subst e2
      obtain ⟨hC, hM⟩ := hF f g w x y hw fun ρ' a => ⟨(H ρ' a).1, hx ρ' a, hy ρ' a⟩
      rw [he x y rs hC]
      exact hM.res fun ρ' a => (H2 ρ' a).2
    · cases q
  · cases q
theorem cq_nz_ok {g : cq_F} {y : Int} (hz : cq_nz S g = true) (H : ∀ ρ', cq_ag S.n ρ' ρ → cq_Md m h0 ρ' S h ∧ y = cq_e ρ' g) : y ≠ 0 := by
  obtain ⟨D, e⟩ := H ρ cq_ag.rf
  rcases Bool.or_eq_true _ _ ▸ hz with q | q
  · have := cq_nn_ok D.P.1 q
    rw [cq_ac_e] at this
    omega
  · have := cq_nn_ok D.P.1 q
    rw [cq_ac_e, cq_neg_e] at this
    omega
end CQR
