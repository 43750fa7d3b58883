/-! THE CHECKER, 17: new objects and arrays -/
def cq_ol (S : cq_S) (c : cq_C) : Bool := bif c.1 then (cq_sk S c.2).isSome else Nat.blt c.2 130
def cq_S.nw (S : cq_S) (k : cq_Kd) (T : List (cq_C × cq_F × cq_A)) (L : List (cq_C × cq_F)) (U : Option (Nat × Nat)) (al : Nat) : cq_S := cq_mk (S.n + 1) S.P ((S.n, true) :: S.N) ((S.n, k) :: S.K) (S.n :: S.W) (T ++ S.T.filter fun q => cq_ol S q.1) (L ++ S.L.filter fun q => cq_ol S q.1) S.M U (S.ac + 1) (S.al + al)
section CSG
variable {m : cq_W} {h0 : am_H} {ρ : Nat → Int} {S : cq_S} {h : am_H} {als ast : List cq_A} {ls st : List Value} {out : List cq_O} {e : am_E} {pc pc' : Nat}
theorem cq_mk_v (sh : am_Sh) (N : Nat) (d : Nat → Value) (a b : Nat) : (am_mk h sh N d).2.2.2 a b = if a = h.1 then d b else h.2.2.2 a b := rfl
theorem cq_mk_s (sh : am_Sh) (N : Nat) (d : Nat → Value) (a : Nat) : (am_mk h sh N d).2.2.1 a = if a = h.1 then sh else h.2.2.1 a := rfl
theorem cq_kOk_mk {sh : am_Sh} {N : Nat} {d : Nat → Value} {a : Nat} {k : cq_Kd} (q : cq_kOk h a k) : cq_kOk (am_mk h sh N d) a k := by
  obtain ⟨t, x, y⟩ := k
  rcases t with _ | _ | t
  · obtain ⟨q1, q2, q3⟩ := q
    refine ⟨q1, Nat.lt_succ_of_lt q2, ?_⟩
    rw [cq_mk_s, if_neg (Nat.ne_of_lt q2)]
    exact q3
  · obtain ⟨q1, q2, q3⟩ := q
    refine ⟨q1, Nat.lt_succ_of_lt q2, ?_⟩
    rw [cq_mk_s, if_neg (Nat.ne_of_lt q2)]
    exact q3
  · exact q
theorem cq_kOk_lt (D : cq_Md m h0 ρ S h) {a : Nat} {k : cq_Kd} (q : cq_kOk h a k) : a < h.1 := by
  obtain ⟨t, x, y⟩ := k
  rcases t with _ | _ | t
  · exact q.2.1
  · exact q.2.1
  · have := q.2
    have := D.I.lo
    omega
theorem cq_ol_ok (D : cq_Md m h0 ρ S h) {c : cq_C} (q : cq_ol S c = true) : cq_ce ρ c < h.1 := by
  unfold cq_ol at q
  unfold cq_ce
  cases c1 : c.1 with
  | true =>
    rw [c1] at q
    simp only [cond_true] at q ⊢
    cases hs : cq_sk S c.2 with
    | none => rw [hs] at q; cases q
    | some k =>
      obtain ⟨p1, p2, -⟩ := cq_sk_ok D hs
      exact cq_kOk_lt D p2
  | false =>
    rw [c1] at q
    simp only [cond_false] at q ⊢
    have : c.2 < 130 := Nat.le_of_ble_eq_true q
    have := D.I.lo
    omega
theorem cq_Inv_mk {x x' : Option Nat} (I : cq_Inv x h) {sh : am_Sh} {N : Nat} {d : Nat → Value} (hx : x' = x ∨ (x = none ∧ x' = some h.1)) (hd : (∃ k, sh = (0, k, am_N k)) ∨ (sh.1 = 1 ∧ sh.2.2 ≤ 100000)) (ht : some h.1 ≠ x' → ∀ j, j < sh.2.2 → cq_ht (am_mk h sh N d) j (cq_tyOf h.1 sh j) (d j)) : cq_Inv x' (am_mk h sh N d) := by
  have lo := I.lo
  have vv : ∀ a b, a < h.1 → (am_mk h sh N d).2.2.2 a b = h.2.2.2 a b := fun a b z => by rw [cq_mk_v, if_neg (Nat.ne_of_lt z)]
  have ss : ∀ a, a < h.1 → (am_mk h sh N d).2.2.1 a = h.2.2.1 a := fun a z => by rw [cq_mk_s, if_neg (Nat.ne_of_lt z)]
  have nn : ∀ a b, a < h.1 → cq_n (am_mk h sh N d) a b = cq_n h a b := fun a b z => by unfold cq_n; rw [vv a b z]
  have G : cq_gr h (am_mk h sh N d) := ⟨fun a k q => cq_kOk_mk q, by rw [nn 40 13 (by omega)]; exact Int.le_refl _⟩
  refine ⟨Nat.le_succ_of_le lo, fun c b1 b2 => ?_, fun c b1 b2 => ?_, ?_, fun c b1 b2 => ?_, fun c b1 b2 nx j hj => ?_, fun t htt => ?_⟩
  · rw [ss c (by omega)]
    exact I.fx c b1 b2
  · rw [ss c (by omega)]
    refine ⟨(I.sv c b1 b2).1, fun j hj => ?_⟩
    rw [vv c j (by omega)]
    exact (I.sv c b1 b2).2 j hj
  · rw [ss 0 (by omega)]
    refine ⟨I.sc.1, I.sc.2.1, I.sc.2.2.1, fun j hj => ?_⟩
    rw [vv 0 j (by omega)]
    exact I.sc.2.2.2 j hj
  · have b2 : c < h.1 + 1 := b2
    by_cases e : c = h.1
    · subst e
      rw [cq_mk_s, if_pos rfl]
      exact hd
    · rw [ss c (by omega)]
      exact I.dy c b1 (by omega)
  · have b2 : c < h.1 + 1 := b2
    by_cases e : c = h.1
    · subst e
      rw [cq_mk_s, if_pos rfl] at hj ⊢
      rw [cq_mk_v, if_pos rfl]
      exact ht nx j hj
    · rw [ss c (by omega)] at hj ⊢
      rw [vv c j (by omega)]
      have nx' : some c ≠ x := by
        rcases hx with z | ⟨z, -⟩
        · rw [← z]; exact nx
        · rw [z]; exact fun y => by cases y
      refine cq_ht_gr G (fun t11 ev hle => ?_) (I.ty c b1 (by omega) nx' j hj)
      have h11 := cq_tyOf11 I b1 (show c < h.1 by omega) hj
      rcases cq_pre11_c h11 t11 with ⟨z1, z2⟩ | ⟨z1, z2⟩
      · rw [z1, z2] at hle ⊢
        rw [nn 40 13 (by omega)]
        exact hle
      · rw [z1, z2] at hle ⊢
        rw [nn 48 1 (by omega)]
        exact hle
  · rw [nn 93 t (by omega), nn 92 (t / 3) (by omega)]
    rw [vv 96 _ (by omega)]
    exact I.sx t htt
/-- a new cell -/
theorem cq_nw_ok {k : cq_Kd} {T : List (cq_C × cq_F × cq_A)} {L : List (cq_C × cq_F)} {U : Option (Nat × Nat)} {al : Nat} {sh : am_Sh} {N : Nat} {d : Nat → Value} (H : ∀ ρ', cq_ag S.n ρ' ρ → cq_Md m h0 ρ' S h) (hN : N ≤ al) (hk : cq_kOk (am_mk h sh N d) h.1 k)
    (hT : ∀ ρ', ρ' S.n = (h.1 : Int) → ∀ q ∈ T, q.1 = (true, S.n) ∧ cq_g ρ' q.2.2 (d (cq_e ρ' q.2.1).toNat))
    (hL : ∀ ρ', cq_ag S.n ρ' ρ → ∀ q ∈ L, q.1 = (true, S.n) ∧ cq_e ρ' q.2 = sh.2.2)
    (hI : ∀ ρ', cq_ag (S.n + 1) ρ' (cq_up ρ S.n h.1) → cq_Inv (U.map fun q => (ρ' q.1).toNat) (am_mk h sh N d))
    (hU : ∀ q, U = some q → q.1 = S.n ∨ S.U = some q) :
    ∀ ρ', cq_ag (S.n + 1) ρ' (cq_up ρ S.n h.1) → cq_Md m h0 ρ' (S.nw k T L U al) (am_mk h sh N d) ∧ cq_g ρ' (cq_rs S.n) (.ref h.1) := by
  intro ρ' a
  have e := cq_up_s a
  have D := H ρ' (cq_up_a a)
  have lo := D.I.lo
  have e2 : (ρ' S.n).toNat = h.1 := by rw [e]; exact Int.toNat_natCast _
  refine ⟨⟨D.1, ?_, ?_, ?_, ?_, ?_, D.M, hI ρ' a, ?_, ?_, ?_⟩, Or.inr ⟨by rw [e]; exact Int.natCast_nonneg _, by rw [e2]⟩⟩
  · intro x hx
    rcases List.mem_cons.1 hx with z | z
    · subst z
      exact ⟨fun _ => by rw [e]; exact Int.natCast_nonneg _, fun z => by cases z⟩
    · exact D.N x z
  · intro x hx hp
    rcases List.mem_cons.1 hx with z | z
    · subst z
      rw [e2]
      exact hk
    · exact cq_kOk_mk (D.K x z hp)
  · intro s hs
    have old : ∀ x ∈ S.K, ρ' x.1 < (h.1 : Int) := fun x hx => by
      rcases (show 0 ≤ ρ' x.1 ∨ ρ' x.1 < 0 by omega) with z | z
      · have := cq_kOk_lt D (D.K x hx z)
        omega
      · omega
    rcases List.mem_cons.1 hs with z | z
    · subst z
      refine ⟨Nat.lt_succ_self _, by rw [e]; have := D.F.nx; omega, fun x hx hlt => ?_⟩
      rcases List.mem_cons.1 hx with y | y
      · subst y
        exact absurd hlt (Nat.lt_irrefl _)
      · rw [e]
        exact old x y
    · refine ⟨Nat.lt_succ_of_lt (D.W s z).1, (D.W s z).2.1, fun x hx hlt => ?_⟩
      rcases List.mem_cons.1 hx with y | y
      · subst y
        have := (D.W s z).1
        dsimp only at hlt
        omega
      · exact (D.W s z).2.2 x y hlt
  · intro x hx
    rcases List.mem_append.1 hx with z | z
    · obtain ⟨c1, g⟩ := hT ρ' e x z
      rw [c1]
      show cq_g ρ' x.2.2 ((am_mk h sh N d).2.2.2 (ρ' S.n).toNat _)
      rw [e2, cq_mk_v, if_pos rfl]
      exact g
    · obtain ⟨z1, z2⟩ := List.mem_filter.1 z
      have := cq_ol_ok D z2
      rw [cq_mk_v, if_neg (Nat.ne_of_lt this)]
      exact D.T x z1
  · intro x hx
    rcases List.mem_append.1 hx with z | z
    · obtain ⟨c1, g⟩ := hL ρ' (cq_up_a a) x z
      rw [c1, g]
      show _ = ((cq_len (am_mk h sh N d) (ρ' S.n).toNat : Nat) : Int)
      rw [e2]
      have : cq_len (am_mk h sh N d) h.1 = sh.2.2 := by
        unfold cq_len
        have : (Nat.ble 7 h.1 && Nat.blt h.1 23) = false := by
          cases hh : (Nat.ble 7 h.1 && Nat.blt h.1 23) with
          | false => rfl
          | true =>
            have hh := (Bool.and_eq_true _ _ ▸ hh)
            have h2 : h.1 < 23 := Nat.le_of_ble_eq_true hh.2
            omega
        rw [this]
        show ((am_mk h sh N d).2.2.1 h.1).2.2 = _
        rw [cq_mk_s, if_pos rfl]
      rw [this]
    · obtain ⟨z1, z2⟩ := List.mem_filter.1 z
      have := cq_ol_ok D z2
      rw [D.L x z1]
      unfold cq_len
      rw [cq_mk_s, if_neg (Nat.ne_of_lt this)]
  · have F := D.F
    have nx := F.nx
    refine ⟨Nat.le_succ_of_le nx, fun c hc => ?_, fun c hc j hj => ?_⟩
    · rw [cq_mk_s, if_neg (by omega)]
      exact F.sh c hc
    · rw [cq_mk_v, if_neg (by omega)]
      exact F.vl c hc j hj
  · have A := D.A
    exact ⟨by show h.1 + 1 ≤ h0.1 + (S.ac + 1); omega, by show h.2.1 + N ≤ h0.2.1 + (S.al + al); omega⟩
  · intro q hq
    rcases hU q hq with z | z
    · rw [z, e]
      have := D.F.nx
      exact ⟨by omega, by omega⟩
    · exact D.U q z
end CSG
def cq_dv (ty : FieldType) : cq_A := match ty with
  | .int => cq_i (cq_c 0)
  | .boolean => cq_i (cq_c 0)
  | .long => cq_l (cq_c 0)
  | .object _ => cq_nu
  | .array _ => cq_nu
  | _ => cq_u
def cq_new (ci pc' : Nat) (ls st : List cq_A) (S : cq_S) : Option (List cq_O) := match S.U with
  | some _ => none
  | none => some [(pc', ls, cq_rs S.n :: st, cq_dis (S.nw (0, ci, 0) ((List.range (am_N ci)).map fun (j : Nat) => ((true, S.n), cq_c (j : Int), cq_dv (am_ty ci j))) [] (some (S.n, ci)) (am_N ci)))]
def cq_nar (ob : Bool) (tc pc' : Nat) (ls st : List cq_A) (S : cq_S) : Option (List cq_O) := match st with
  | (1, f, _) :: r => bif (bif ob then Nat.beq tc 7 else (Nat.beq tc 0 || Nat.beq tc 3)) && cq_in S.P f 0 100000 then (match cq_hi S.P.1 f with
    | some u => some [(pc', ls, cq_rs S.n :: r, S.nw (1, tc, bif cq_k f then f.1.toNat + 1 else 0) [] [((true, S.n), f)] S.U u.toNat)]
    | none => none) else none
  | _ => none
section CSH
variable {m : cq_W} {h0 : am_H} {ρ : Nat → Int} {S : cq_S} {h : am_H} {als ast : List cq_A} {ls st : List Value} {out : List cq_O} {e : am_E} {pc pc' : Nat}
theorem cq_dv_ok (ty : FieldType) (ρ : Nat → Int) : cq_g ρ (cq_dv ty) (defaultValue ty) := by
  have z32 : (0 : Int32).toInt = 0 := rfl
  have z64 : (0 : Int64).toInt = 0 := rfl
  cases ty with
  | int => exact ⟨0, rfl, by rw [cq_c_e, z32]⟩
  | boolean => exact ⟨0, rfl, by rw [cq_c_e, z32]⟩
  | long => exact ⟨0, rfl, by rw [cq_c_e, z64]⟩
  | object n => exact rfl
  | array t => exact rfl
  | _ => exact trivial
theorem cq_new_ok {x : Nat} (he : e.1 = .new x) (H : cq_Rb m h0 ρ S als ast ls st h) (q : cq_new e.2.2.2.1 (pc + 3) als ast S = some out) : cq_Res m h0 ρ S.n out (am_st e pc ls st h) := by
  unfold cq_new at q
  split at q
  · cases q
  · rename_i hu
    rw [← Option.some.inj q]
    simp only [am_st, he]
    have H1 : ∀ ρ', cq_ag S.n ρ' ρ → cq_Md m h0 ρ' S h := fun ρ' a => (H ρ' a).1
    have lo := (H1 ρ cq_ag.rf).I.lo
    have kk := cq_nw_ok (m := m) (h0 := h0) (ρ := ρ) (S := S) (h := h) (k := (0, e.2.2.2.1, 0)) (T := (List.range (am_N e.2.2.2.1)).map fun (j : Nat) => ((true, S.n), cq_c (j : Int), cq_dv (am_ty e.2.2.2.1 j))) (L := []) (U := some (S.n, e.2.2.2.1)) (al := am_N e.2.2.2.1) (sh := (0, e.2.2.2.1, am_N e.2.2.2.1)) (N := am_N e.2.2.2.1) (d := fun j => defaultValue (am_ty e.2.2.2.1 j)) H1 (Nat.le_refl _)
      ⟨lo, Nat.lt_succ_self _, by rw [cq_mk_s, if_pos rfl]⟩
      (fun ρ' e1 y hy => by
        obtain ⟨j, -, ej⟩ := List.mem_map.1 hy
        subst ej
        refine ⟨rfl, ?_⟩
        dsimp only
        rw [cq_c_e, Int.toNat_natCast]
        exact cq_dv_ok _ ρ')
      (fun ρ' a y hy => by cases hy)
      (fun ρ' a => by
        have I := (H1 ρ' (cq_up_a a)).I
        rw [hu] at I
        have e2 : (ρ' S.n).toNat = h.1 := by rw [cq_up_s a]; exact Int.toNat_natCast _
        refine cq_Inv_mk I (Or.inr ⟨rfl, ?_⟩) (Or.inl ⟨_, rfl⟩) (fun z => absurd ?_ z)
        · show some (ρ' S.n).toNat = _
          rw [e2]
        · show some h.1 = some (ρ' S.n).toNat
          rw [e2])
      (fun y hy => by
        cases hy
        exact Or.inl rfl)
    refine ⟨_, rfl, _, List.mem_cons_self, rfl, by rw [cq_dis_n]; exact Nat.le_succ _, cq_up ρ S.n h.1, cq_up_g, fun ρ' a => ?_⟩
    have a' : cq_ag (S.n + 1) ρ' (cq_up ρ S.n h.1) := by
      have := a
      rw [cq_dis_n] at this
      exact this
    obtain ⟨D, g⟩ := kk ρ' a'
    exact ⟨cq_dis_ok D, (H ρ' (cq_up_a a')).2.1, g, (H ρ' (cq_up_a a')).2.2⟩
theorem cq_nar_ok {ob : Bool} {tc : Nat} (H : cq_Rb m h0 ρ S als ast ls st h) (q : cq_nar ob tc pc' als ast S = some out) : ∃ (n : Int32) (rs : List Value), st = .int n :: rs ∧ ¬ (n < 0 ∨ 100000 < n.toNatClampNeg) ∧ (ob = true → tc = 7) ∧ (ob = false → tc = 0 ∨ tc = 3) ∧ cq_Res m h0 ρ S.n out (some (pc', ls, .ref h.1 :: rs, am_mk h (1, tc, n.toNatClampNeg) n.toNatClampNeg (fun _ => am_dv tc))) := by
  unfold cq_nar at q
  split at q
  · rename_i f k r
    rw [cond_eq_ite] at q
    split at q
    · rename_i hb
      have hb := (Bool.and_eq_true _ _ ▸ hb)
      split at q
      · rename_i u hu
        rw [← Option.some.inj q]
        obtain ⟨v, rs, es, K, H2⟩ := cq_pop1 H
        subst es
        obtain ⟨n, en, hn⟩ := cq_int K
        subst en
        have H1 : ∀ ρ', cq_ag S.n ρ' ρ → cq_Md m h0 ρ' S h := fun ρ' a => (H ρ' a).1
        have D := H1 ρ cq_ag.rf
        obtain ⟨b1, b2⟩ := cq_in_ok D.P hb.2
        rw [← hn ρ cq_ag.rf] at b1 b2
        have hu1 := cq_hi_ok D.P.1 hu
        rw [← hn ρ cq_ag.rf] at hu1
        have n0 : ¬ n < 0 := fun z => by
          have := Int32.lt_iff_toInt_lt.1 z
          rw [cq_i0] at this
          omega
        have ei : n.toInt = (n.toNatClampNeg : Int) := (Int32.cast_toNatClampNeg n (by rw [Int32.le_iff_toInt_le, cq_i0]; omega)).symm
        have htc : (ob = true → tc = 7) ∧ (ob = false → tc = 0 ∨ tc = 3) := by
          have h1 := hb.1
          cases ob with
          | true => exact ⟨fun _ => am_beq h1, fun z => by cases z⟩
          | false =>
            refine ⟨fun z => (by cases z), fun _ => ?_⟩
            rcases Bool.or_eq_true _ _ ▸ h1 with z | z
            · exact Or.inl (am_beq z)
            · exact Or.inr (am_beq z)
        have htc3 : tc = 0 ∨ tc = 3 ∨ tc = 7 := by
          cases ob with
          | true => exact Or.inr (Or.inr (htc.1 rfl))
          | false =>
            rcases htc.2 rfl with z | z
            · exact Or.inl z
            · exact Or.inr (Or.inl z)
        refine ⟨n, rs, rfl, (fun z => by rcases z with z | z; exact n0 z; omega), htc.1, htc.2, ?_⟩
        have lo := D.I.lo
        have kk := cq_nw_ok (m := m) (h0 := h0) (ρ := ρ) (S := S) (h := h) (k := (1, tc, bif cq_k f then f.1.toNat + 1 else 0)) (T := []) (L := [((true, S.n), f)]) (U := S.U) (al := u.toNat) (sh := (1, tc, n.toNatClampNeg)) (N := n.toNatClampNeg) (d := fun _ => am_dv tc) H1 (by omega)
          (by
            refine ⟨lo, Nat.lt_succ_self _, ?_⟩
            rw [cq_mk_s, if_pos rfl]
            refine ⟨rfl, rfl, ?_⟩
            cases hk : cq_k f with
            | true =>
              right
              have := hn ρ cq_ag.rf
              rw [cq_k_e hk] at this
              show n.toNatClampNeg + 1 = f.1.toNat + 1
              omega
            | false => exact Or.inl rfl)
          (fun ρ' e1 y hy => by cases hy)
          (fun ρ' a y hy => by
            rcases List.mem_cons.1 hy with z | z
            · subst z
              refine ⟨rfl, ?_⟩
              show cq_e ρ' f = (n.toNatClampNeg : Int)
              rw [← hn ρ' a]
              exact ei
            · cases z)
          (fun ρ' a => by
            have I := (H1 ρ' (cq_up_a a)).I
            refine cq_Inv_mk I (Or.inl rfl) (Or.inr ⟨rfl, by show n.toNatClampNeg ≤ 100000; omega⟩) (fun _ j _ => ?_)
            have et : cq_tyOf h.1 (1, tc, n.toNatClampNeg) j = cq_at tc := by
              unfold cq_tyOf
              have : Nat.blt h.1 130 = false := by
                cases hh : Nat.blt h.1 130 with
                | false => rfl
                | true => have : h.1 < 130 := Nat.le_of_ble_eq_true hh; omega
              rw [this]
              rfl
            rw [et]
            rcases htc3 with z | z | z
            · subst z
              exact ⟨0, rfl, by decide, by decide⟩
            · subst z
              exact ⟨0, rfl⟩
            · subst z
              exact Or.inl rfl)
          (fun y hy => Or.inr hy)
        refine ⟨_, rfl, _, List.mem_cons_self, rfl, Nat.le_succ _, cq_up ρ S.n h.1, cq_up_g, fun ρ' a => ?_⟩
        obtain ⟨D', g⟩ := kk ρ' a
        exact ⟨D', (H ρ' (cq_up_a a)).2.1, g, (H2 ρ' (cq_up_a a)).2.2⟩
      · cases q
    · cases q
  · cases q
end CSH
