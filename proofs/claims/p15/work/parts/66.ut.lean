/-! WHAT IS ASKED OF HEAPS stays as it is where nothing but unread cells is written; a method that only reads answers what is asked -/
def ni_W (m : cq_W) : Bool := m.all fun w => !w.1 && (ni_X w.2.1 || (Nat.beq w.2.1 78 && Nat.beq w.2.2.1 33))
theorem ni_R_of {m : cq_W} {h0 h : am_H} (hm : ni_W m = true) (F : cq_Fr m h0 h) (e : h.1 = h0.1) : ni_R h0 h := by
  refine ⟨e.symm, fun c hc => (F.sh c hc).symm, fun c hc hx j hj => (F.vl c hc j ?_).symm⟩
  cases hb : cq_inW m c (h0.2.2.1 c) j with
  | false => rfl
  | true =>
    exfalso
    obtain ⟨w, hw, hz⟩ := List.any_eq_true.1 hb
    have k := List.all_eq_true.1 hm w hw
    have k := (Bool.and_eq_true _ _ ▸ k)
    have w1 := cq_nb k.1
    rw [w1] at hz
    simp only [cond_false] at hz
    have hz := (Bool.and_eq_true _ _ ▸ hz)
    have e2 := am_beq hz.1
    have k2 := k.2
    rw [e2, hx, Bool.false_or] at k2
    have k3 := (Bool.and_eq_true _ _ ▸ k2)
    refine hj ⟨am_beq k3.1, ?_⟩
    rcases Bool.or_eq_true _ _ ▸ hz.2 with z | z
    · have z1 := am_beq z
      have z2 := am_beq k3.2
      omega
    · have z1 := am_beq z
      have z2 := am_beq k3.2
      omega
theorem ni_R.symm {h h2 : am_H} (R : ni_R h h2) : ni_R h2 h := ⟨R.1.symm, fun c hc => (R.2.1 c (by rw [R.1]; exact hc)).symm, fun c hc hx j hj => (R.2.2 c (by rw [R.1]; exact hc) hx j hj).symm⟩
theorem ni_R.rf {h : am_H} : ni_R h h := ⟨rfl, fun _ _ => rfl, fun _ _ _ _ _ => rfl⟩
theorem ni_ev {d d2 y mx : Nat} {as : List Value} {h h2 h' : am_H} {r : Option Value} (hy : ni_M y = true) (I : cq_Inv none h) (ha : ni_L as) (ev : am_ev d y 0 (am_ent as mx) [] h (r, h')) (R : ni_R h h2) (hd : d ≤ d2) : h' = h ∧ am_ev d2 y 0 (am_ent as mx) [] h2 (r, h2) := by
  obtain ⟨n, q⟩ := ev
  obtain ⟨e1, -, k⟩ := ni_run n d y 0 _ [] h (r, h') hy I (ni_ent ha) (fun _ z => by cases z) q
  exact ⟨e1, n, k h2 d2 R hd⟩
theorem ni_dgL : ∀ (n : Nat) (x : Int), ni_L (cq_dg n x)
  | 0, _ => fun _ z => by cases z
  | n + 1, x => ni_L.int (ni_dgL n (x / 65536))
theorem ni_dg78 (n : Nat) (x : Int) : ni_L (.ref 78 :: cq_dg n x) := (ni_dgL n x).cons fun a q => by cases q; rfl
theorem am_ev_det {d y pc : Nat} {ls st : List Value} {h : am_H} {x x' : Option Value × am_H} (a : am_ev d y pc ls st h x) (b : am_ev d y pc ls st h x') : x = x' := by
  obtain ⟨n, q⟩ := a
  obtain ⟨k, q'⟩ := b
  have h1 := am_run_le (Nat.le_max_left n k) q
  have h2 := am_run_le (Nat.le_max_right n k) q'
  rw [h1] at h2
  exact Option.some.inj h2
theorem ni_An_eq {y : Nat} {as : List Value} {h0 h : am_H} (hy : ni_M y = true) (I0 : cq_Inv none h0) (I : cq_Inv none h) (R : ni_R h0 h) (ha : ni_L as) : cq_An h y as = cq_An h0 y as := by
  have e : (fun r : Int32 => ∃ h', am_ev 60 y 0 (am_ent as (am_in y).2.2.1) [] h (some (.int r), h')) = (fun r : Int32 => ∃ h', am_ev 60 y 0 (am_ent as (am_in y).2.2.1) [] h0 (some (.int r), h')) := funext fun r => propext ⟨fun ⟨h', ev⟩ => ⟨_, (ni_ev hy I ha ev R.symm (Nat.le_refl _)).2⟩, fun ⟨h', ev⟩ => ⟨_, (ni_ev hy I0 ha ev R (Nat.le_refl _)).2⟩⟩
  unfold cq_An
  rw [e]
/-- what a run answers is what is asked -/
theorem ni_An_of {y d : Nat} {as : List Value} {h h' : am_H} {r : Int32} (hy : ni_M y = true) (I : cq_Inv none h) (ha : ni_L as) (hd : d ≤ 60) (ev : am_ev d y 0 (am_ent as (am_in y).2.2.1) [] h (some (.int r), h')) : cq_An h y as = r.toInt := by
  have ev60 := (ni_ev hy I ha ev ni_R.rf hd).2
  have sp := Classical.epsilon_spec (p := fun r : Int32 => ∃ h', am_ev 60 y 0 (am_ent as (am_in y).2.2.1) [] h (some (.int r), h')) ⟨r, h, ev60⟩
  obtain ⟨h2, e2⟩ := sp
  have := am_ev_det ev60 e2
  unfold cq_An
  have e3 := (Prod.mk.inj this).1
  have e4 := Value.int.inj (Option.some.inj e3)
  rw [← e4]
theorem ni_n {h0 h : am_H} (I0 : cq_Inv none h0) (R : ni_R h0 h) {c : Nat} (hc : c < 130) (hx : ni_X c = false) (h78 : Nat.beq c 78 = false) (j : Nat) : cq_n h c j = cq_n h0 c j := by
  unfold cq_n
  rw [R.2.2 c (Nat.lt_of_lt_of_le hc I0.lo) hx j (fun z => by rw [z.1] at h78; cases h78)]
theorem ni_n78 {h0 h : am_H} (I0 : cq_Inv none h0) (R : ni_R h0 h) {j : Nat} (hj : j ≠ 32) : cq_n h 78 j = cq_n h0 78 j := by
  unfold cq_n
  rw [R.2.2 78 (by have := I0.lo; omega) (by decide) j (fun z => hj z.2)]
theorem ni_U0 {h0 h : am_H} (I0 : cq_Inv none h0) (I : cq_Inv none h) (R : ni_R h0 h) {k : Nat} (hk : (ni_M k && Nat.blt k 1000 || Nat.beq k 1092 || Nat.beq k 1093 || Nat.beq k 1096) = true) (x : Int) : cq_U0 h k x = cq_U0 h0 k x := by
  unfold cq_U0
  simp only [Bool.or_eq_true, Bool.and_eq_true] at hk
  rcases hk with ((⟨hM, hb⟩ | hk) | hk) | hk
  · rw [hb]
    exact ni_An_eq hM I0 I R (ni_dg78 _ _)
  · rw [am_beq hk]
    exact ni_n I0 R (by decide) (by decide) (by decide) _
  · rw [am_beq hk]
    exact ni_n I0 R (by decide) (by decide) (by decide) _
  · rw [am_beq hk]
    exact ni_n I0 R (by decide) (by decide) (by decide) _
theorem ni_AL {h0 h : am_H} (I0 : cq_Inv none h0) (I : cq_Inv none h) (R : ni_R h0 h) (p : Int) : cq_AL h p ↔ cq_AL h0 p := by
  unfold cq_AL
  rw [ni_U0 I0 I R (by decide), ni_U0 I0 I R (by decide), ni_U0 I0 I R (by decide), ni_n78 I0 R (j := 15) (by decide)]
theorem ni_RW {h0 h : am_H} (I0 : cq_Inv none h0) (I : cq_Inv none h) (R : ni_R h0 h) : cq_RW h ↔ cq_RW h0 := by
  unfold cq_RW
  rw [ni_n78 I0 R (j := 55) (by decide)]
  constructor
  · intro k i hi
    have := k i hi
    rw [ni_AL I0 I R, ni_n I0 R (c := 118) (by decide) (by decide) (by decide), ni_n I0 R (c := 117) (by decide) (by decide) (by decide)] at this
    exact this
  · intro k i hi
    rw [ni_AL I0 I R, ni_n I0 R (c := 118) (by decide) (by decide) (by decide), ni_n I0 R (c := 117) (by decide) (by decide) (by decide)]
    exact k i hi
theorem ni_UT {m : cq_W} (hm : ni_W m = true) : ∀ h0, cq_Inv none h0 → cq_UT m h0 := by
  intro h0 I0 h F I e k x hk
  have R := ni_R_of hm F e
  unfold cq_U
  by_cases h2 : k = 2000
  · subst h2
    rw [show Nat.blt 2000 2000 = false by decide]
    simp only [cond_false]
    have e2 : cq_RW h = cq_RW h0 := propext (ni_RW I0 I R)
    rw [e2]
  · have hb : (ni_M k && Nat.blt k 1000 || Nat.beq k 1092 || Nat.beq k 1093 || Nat.beq k 1096) = true ∧ Nat.blt k 2000 = true := by
      unfold cq_okT at hk
      simp only [Bool.or_eq_true, Nat.beq_eq] at hk
      rcases hk with (((((((z | z) | z) | z) | z) | z) | z) | z) | z
      all_goals first
        | (subst z; decide)
        | exact absurd z h2
    rw [hb.2]
    exact ni_U0 I0 I R hb.1 x
/-- the contract of a method that only reads: its answer is what is asked of the heap -/
def cq_bG (B : cq_B) : List cq_F := B.flatMap fun b => [cq_ac (cq_s b.1) (- b.2.1), cq_ac (cq_neg (cq_s b.1)) b.2.2]
def cq_xg (x : Bool × List cq_A × cq_S) : Bool × List cq_A × cq_S := (x.1, x.2.1, x.2.2.sP (x.2.2.P.1, x.2.2.P.2 ++ cq_bG x.2.2.P.1))
theorem cq_xg_ok {m : cq_W} {h0 : am_H} {ρ : Nat → Int} {x : Bool × List cq_A × cq_S} {h : am_H} (D : cq_Md m h0 ρ x.2.2 h) : cq_Md m h0 ρ (cq_xg x).2.2 h := by
  refine D.sP ⟨D.P.1, fun g hg => ?_⟩
  rcases List.mem_append.1 hg with z | z
  · exact D.P.2 g z
  · obtain ⟨b, hb, hz⟩ := List.mem_flatMap.1 z
    have bb := D.P.1 b hb
    rcases List.mem_cons.1 hz with y | y
    · rw [y, cq_ac_e, cq_s_e]; omega
    · rw [List.mem_singleton.1 y, cq_ac_e, cq_neg_e, cq_s_e]; omega
def cq_fn (k : Nat) (f : cq_F) (c : cq_Ct) : cq_Ct := (c.1, c.2.1, cq_mk (c.2.2.1.n + 1) ((c.2.2.1.n, -2147483648, 2147483647) :: c.2.2.1.P.1, c.2.2.1.P.2) c.2.2.1.N c.2.2.1.K [] c.2.2.1.T [] [(f, (1000000000000 + (k : Int), []), cq_s c.2.2.1.n)] none 0 0, c.2.2.2.1, c.2.2.2.2.map cq_xg)
def cq_fx (n : Nat) (x : Bool × List cq_A × cq_S) : Bool := !x.1 && Nat.beq x.2.2.n (n + 1) && (match x.2.1 with
  | [(1, g, _)] => cq_fe g (cq_s n)
  | _ => false)
theorem cq_fun {k : Nat} {f : cq_F} {c : cq_Ct} (hk : (ni_M k && Nat.blt k 1000) = true) (hD : c.1 ≤ 60) (wf : cq_wfC c = true) (CT : cq_CT k c) (hM : c.2.2.1.M = []) (hx : c.2.2.2.2.all (cq_fx c.2.2.1.n) = true) (dec : ∀ h ρ as, cq_Md c.2.2.2.1 h ρ c.2.2.1 h → cq_gs ρ c.2.1 as → as = .ref 78 :: cq_dg ((am_in k).2.1 - 1) (cq_e ρ f)) : cq_CT k (cq_fn k f c) := by
  intro d h ρ as hd M g
  have hk := (Bool.and_eq_true _ _ ▸ hk)
  have w1 := (Bool.and_eq_true _ _ ▸ wf)
  have w0 := (Bool.and_eq_true _ _ ▸ w1.1)
  have w2 := (Bool.and_eq_true _ _ ▸ w0.1)
  have q1 := (Bool.and_eq_true _ _ ▸ w2.1)
  have q2 := (Bool.and_eq_true _ _ ▸ q1.1)
  have q3 := (Bool.and_eq_true _ _ ▸ q2.1)
  have q4 := (Bool.and_eq_true _ _ ▸ q3.1)
  have eW : c.2.2.1.W = [] := List.isEmpty_iff.1 q4.2
  have eL : c.2.2.1.L = [] := List.isEmpty_iff.1 q3.2
  have eU : c.2.2.1.U = none := Option.isNone_iff_eq_none.1 q1.2
  have M0 : cq_Md c.2.2.2.1 h ρ c.2.2.1 h := by
    refine ⟨⟨fun b hb => M.P.1 b (List.mem_cons_of_mem _ hb), M.P.2⟩, M.N, M.K, ?_, M.T, ?_, ?_, ?_, M.F, ⟨Nat.le_add_right _ _, Nat.le_add_right _ _⟩, ?_⟩
    · rw [eW]; exact fun s hs => (by cases hs)
    · rw [eL]; exact fun s hs => (by cases hs)
    · rw [hM]; exact fun s hs => (by cases hs)
    · rw [eU]; exact M.I
    · rw [eU]; exact fun s hs => (by cases hs)
  have I : cq_Inv none h := M.I
  obtain ⟨r, h', ev, x, hxm, ρ', a', Mx, hr⟩ := CT c.1 h ρ as (Nat.le_refl _) M0 g
  have z := List.all_eq_true.1 hx x hxm
  have z1 := (Bool.and_eq_true _ _ ▸ z)
  have z2 := (Bool.and_eq_true _ _ ▸ z1.1)
  have x0 := cq_nb z2.1
  rcases hr with ⟨-, hT, gr⟩ | ⟨x1, -⟩
  · have z3 := z1.2
    split at z3
    · rename_i gg kk e21
      have eg := cq_fe_ok z3
      subst eg
      rw [e21] at gr
      have hv : ∃ v : Int32, r = some (.int v) ∧ v.toInt = ρ' c.2.2.1.n := by
        cases r with
        | none => exact gr.elim
        | some w =>
          obtain ⟨v, ev, hv⟩ := gr.1
          exact ⟨v, by rw [ev], by rw [hv, cq_s_e]⟩
      obtain ⟨v, er, hv⟩ := hv
      subst er
      have eas := dec h ρ as M0 g
      have ha : ni_L as := by rw [eas]; exact ni_dg78 _ _
      obtain ⟨e1, ev2⟩ := ni_ev hk.1 I ha ev ni_R.rf hd
      subst e1
      have eA := ni_An_of hk.1 I ha hD ev
      have MM := (M.M _ List.mem_cons_self).2 k rfl
      dsimp only at MM
      rw [cq_s_e] at MM
      have eU : cq_U h' k (cq_e ρ f) = v.toInt := by
        unfold cq_U cq_U0
        have h2 : Nat.blt k 2000 = true := by
          have := Nat.le_of_ble_eq_true hk.2
          exact Nat.ble_eq_true_of_le (by omega)
        rw [h2, hk.2]
        simp only [cond_true]
        rw [← eas]
        exact eA
      refine ⟨some (.int v), h', ev2, cq_xg x, List.mem_map_of_mem hxm, ρ', fun s hs => ?_, cq_xg_ok Mx, Or.inl ⟨x0, hT, ?_⟩⟩
      · have hs : s < c.2.2.1.n + 1 := hs
        by_cases es : s = c.2.2.1.n
        · rw [es, ← hv, ← eU, ← MM]
        · exact a' s (by omega)
      · show cq_gs ρ' x.2.1 _
        rw [e21]
        exact gr
    · cases z3
  · rw [x0] at x1; cases x1
/-- arguments out of one number -/
theorem cq_ofI (a : Int32) {x : Int} (h : x = a.toInt) : Int32.ofInt x = a := by rw [h]; exact Int32.ofInt_toInt a
theorem cq_dg1 {a : Int32} {x : Int} (h0 : 0 ≤ a.toInt) (h1 : a.toInt < 65536) (e : x = a.toInt) : cq_dg 1 x = [.int a] := by
  show [Value.int (Int32.ofInt (x % 65536))] = _
  rw [cq_ofI a (by omega)]
theorem cq_dg2 {a b : Int32} {x : Int} (h0 : 0 ≤ a.toInt) (h1 : a.toInt < 65536) (h2 : 0 ≤ b.toInt) (h3 : b.toInt < 65536) (e : x = a.toInt + 65536 * b.toInt) : cq_dg 2 x = [.int a, .int b] := by
  show Value.int (Int32.ofInt (x % 65536)) :: cq_dg 1 (x / 65536) = _
  rw [cq_ofI a (by omega), cq_dg1 (a := b) h2 h3 (by omega)]
theorem cq_dg3 {a b c : Int32} {x : Int} (h0 : 0 ≤ a.toInt) (h1 : a.toInt < 65536) (h2 : 0 ≤ b.toInt) (h3 : b.toInt < 65536) (h4 : 0 ≤ c.toInt) (h5 : c.toInt < 65536) (e : x = a.toInt + 65536 * b.toInt + 4294967296 * c.toInt) : cq_dg 3 x = [.int a, .int b, .int c] := by
  show Value.int (Int32.ofInt (x % 65536)) :: cq_dg 2 (x / 65536) = _
  rw [cq_ofI a (by omega), cq_dg2 (a := b) (b := c) h2 h3 h4 h5 (by omega)]
