/-! BY HAND, 7: lay -/
/-- a place from which the hand goes on -/
def cq_nxo (y0 pc0 : Nat) (chk : cq_Z → Bool) (nx : cq_Z → Option (List cq_Z)) (Z : cq_Z) : Option (List cq_Z) := bif Nat.beq Z.1 y0 && Nat.beq Z.2.1 pc0 && Z.2.2.2.2.1.isEmpty then (bif chk Z then some [] else none) else nx Z
theorem cq_nxo_ok {m : cq_W} {h0 : am_H} {ρ0 : Nat → Int} {n0 y0 pc0 : Nat} {Fin : Option Value × am_H → Prop} {nx : cq_Z → Option (List cq_Z)} {chk : cq_Z → Bool} (HO : ∀ (Z : cq_Z) (ρ : Nat → Int) (ls st : List Value) (h : am_H) (d : Nat), cq_ag n0 ρ ρ0 → n0 ≤ Z.2.2.2.2.2.2.n → chk Z = true → cq_Rz m h0 ρ Z ls st h [] → Z.2.2.2.2.2.1 ≤ d → cq_Go Fin d y0 pc0 ls st h []) (N : cq_NX m h0 ρ0 n0 Fin nx) : cq_NX m h0 ρ0 n0 Fin (cq_nxo y0 pc0 chk nx) := by
  intro Z out ρ ls st h fs d a hn q H hd K
  unfold cq_nxo at q
  cases hb : Nat.beq Z.1 y0 && Nat.beq Z.2.1 pc0 && Z.2.2.2.2.1.isEmpty with
  | false =>
    rw [hb] at q
    exact N Z out ρ ls st h fs d a hn q H hd K
  | true =>
    rw [hb] at q
    have b1 := (Bool.and_eq_true _ _ ▸ hb)
    have b2 := (Bool.and_eq_true _ _ ▸ b1.1)
    simp only [cond_true] at q
    cases hc : chk Z with
    | false => rw [hc] at q; cases q
    | true =>
      have hfs : fs = [] := by
        have := (H ρ cq_ag.rf).2.2.2
        rw [List.isEmpty_iff.1 b1.2] at this
        cases fs with
        | nil => rfl
        | cons c cs => exact this.elim
      subst hfs
      rw [am_beq b2.1, am_beq b2.2]
      exact HO Z ρ ls st h d a hn hc H hd
/-- the tape's places, where they are known to be letters of candidates -/
def cq_tpS (S : cq_S) (st : List cq_A) : cq_S := match st with
  | (1, f, _) :: (5, _, k) :: _ => bif Nat.beq k 80 && cq_en S.P f && cq_en S.P (cq_ac (cq_sub (cq_s 1) f) (-1)) && cq_sm S.n f && (cq_tl (false, 80) f S.T).isNone then (match cq_asm (S.fb 65 78).P (cq_ac (cq_sub (cq_s 0) (cq_s S.n)) 64) with
      | some P => ((S.fb 65 78).sT (((false, 80), f, cq_i (cq_s S.n)) :: S.T)).sP P
      | none => S) else S
  | _ => S
def cq_tpZ (Z : cq_Z) : cq_Z := bif (Nat.beq Z.2.1 95 || Nat.beq Z.2.1 134 || Nat.beq Z.2.1 146 || Nat.beq Z.2.1 203) && Z.2.2.2.2.1.isEmpty then (Z.1, Z.2.1, Z.2.2.1, Z.2.2.2.1, Z.2.2.2.2.1, Z.2.2.2.2.2.1, cq_tpS Z.2.2.2.2.2.2 Z.2.2.2.1) else Z
theorem cq_inW_no {m : cq_W} {c : Nat} (hc : c < 130) (hm : m.all (fun w => w.1 || !Nat.beq w.2.1 c) = true) (sh : am_Sh) (j : Nat) : cq_inW m c sh j = false := by
  cases hb : cq_inW m c sh j with
  | false => rfl
  | true =>
    exfalso
    obtain ⟨w, hw, hz⟩ := List.any_eq_true.1 hb
    have k := List.all_eq_true.1 hm w hw
    cases h1 : w.1 with
    | true =>
      rw [h1] at hz
      simp only [cond_true] at hz
      have z1 := (Bool.and_eq_true _ _ ▸ hz)
      have z2 := (Bool.and_eq_true _ _ ▸ z1.1)
      have z3 := (Bool.and_eq_true _ _ ▸ z2.1)
      have := Nat.le_of_ble_eq_true z3.1
      omega
    | false =>
      rw [h1] at hz k
      simp only [cond_false, Bool.false_or] at hz k
      have z1 := (Bool.and_eq_true _ _ ▸ hz)
      have z2 := z1.1
      rw [z2] at k
      cases k
/-- every place of the tape below n is a candidate's letter -/
def hd_V (h : am_H) (n k : Int) : Prop := ∀ i : Nat, (i : Int) < n → ∃ x : Int32, h.2.2.2 80 i = .int x ∧ 65 ≤ x.toInt ∧ x.toInt ≤ 64 + k
theorem cq_tpS_ok {m : cq_W} {h0 : am_H} {ρ ρ0 : Nat → Int} {S : cq_S} {ast : List cq_A} {h : am_H} (hm : m.all (fun w => w.1 || !Nat.beq w.2.1 80) = true) (h130 : 130 ≤ h0.1) (V : hd_V h0 (ρ0 1) (ρ0 0)) (k14 : ρ0 0 ≤ 14) (a0 : cq_ag 2 ρ ρ0) (hn : 2 ≤ S.n) (H : ∀ ρ', cq_ag S.n ρ' ρ → cq_Md m h0 ρ' S h) : S.n ≤ (cq_tpS S ast).n ∧ ∃ ρ1, cq_ag S.n ρ1 ρ ∧ ∀ ρ', cq_ag (cq_tpS S ast).n ρ' ρ1 → cq_Md m h0 ρ' (cq_tpS S ast) h := by
  unfold cq_tpS
  split
  · rename_i f k1 ff k rest
    rw [cond_eq_ite]
    split
    · rename_i hb
      have b1 := (Bool.and_eq_true _ _ ▸ hb)
      have b2 := (Bool.and_eq_true _ _ ▸ b1.1)
      have b3 := (Bool.and_eq_true _ _ ▸ b2.1)
      have b4 := (Bool.and_eq_true _ _ ▸ b3.1)
      split
      · rename_i P hP
        have D := H ρ cq_ag.rf
        have i0 := cq_en_ok D.P b4.2
        have i1 := cq_en_ok D.P b3.2
        rw [cq_ac_e, cq_sub_e, cq_s_e, a0 1 (by decide)] at i1
        obtain ⟨x, ex, x1, x2⟩ := V (cq_e ρ f).toNat (by omega)
        have exh : h.2.2.2 80 (cq_e ρ f).toNat = .int x := by
          rw [D.F.vl 80 (by omega) _ (cq_inW_no (by decide) hm _ _)]
          exact ex
        refine ⟨Nat.le_succ _, cq_up ρ S.n x.toInt, cq_up_g, fun ρ' a => ?_⟩
        obtain ⟨D', ev⟩ := cq_fb_ok (l := 65) (u := 78) H x1 (by omega) ρ' a
        have fact : 0 ≤ cq_e ρ' (cq_ac (cq_sub (cq_s 0) (cq_s S.n)) 64) := by
          rw [cq_ac_e, cq_sub_e, cq_s_e, cq_s_e, ev, cq_up_a a 0 (by omega), a0 0 (by decide)]
          omega
        obtain ⟨P', e1, hP'⟩ := cq_asm_ok D'.P fact
        rw [hP] at e1
        have e1 := Option.some.inj e1
        subst e1
        refine (D'.sT fun e he => ?_).sP hP'
        rcases List.mem_cons.1 he with z | z
        · subst z
          have ef : cq_e ρ' f = cq_e ρ f := cq_sm_e b2.2 (cq_up_a a)
          show cq_g ρ' (cq_i (cq_s S.n)) (h.2.2.2 80 (cq_e ρ' f).toNat)
          rw [ef, exh]
          exact ⟨x, rfl, by rw [cq_s_e, ev]⟩
        · exact D'.T e z
      · exact ⟨Nat.le_refl _, ρ, cq_ag.rf, H⟩
    · exact ⟨Nat.le_refl _, ρ, cq_ag.rf, H⟩
  · exact ⟨Nat.le_refl _, ρ, cq_ag.rf, H⟩
theorem cq_tpZ_ok {m : cq_W} {h0 : am_H} {ρ0 : Nat → Int} (hm : m.all (fun w => w.1 || !Nat.beq w.2.1 80) = true) (h130 : 130 ≤ h0.1) (V : hd_V h0 (ρ0 1) (ρ0 0)) (k14 : ρ0 0 ≤ 14) : cq_HA m h0 ρ0 2 cq_tpZ := by
  intro Z ρ ls st h fs a hn R
  unfold cq_tpZ
  rw [cond_eq_ite]
  split
  · obtain ⟨n1, ρ1, a1, k1⟩ := cq_tpS_ok (ast := Z.2.2.2.1) hm h130 V k14 a hn (fun ρ' a => (R ρ' a).1)
    refine ⟨ρ1, a1, n1, rfl, rfl, rfl, fun ρ' a' => ?_⟩
    have a2 : cq_ag Z.2.2.2.2.2.2.n ρ' ρ := (cq_ag.lt a' n1).tr a1
    exact ⟨k1 ρ' a', (R ρ' a2).2⟩
  · exact ⟨ρ, cq_ag.rf, Nat.le_refl _, rfl, rfl, rfl, R⟩
theorem hd_ba {l b w pc z : Nat} {t : Int} {ls r : List Value} {h : am_H} {v : Value} {a : Nat} {i : Int32} (hr : am_rd h a i (fun c => Nat.beq c 1 || Nat.beq c 2) = some v) : am_st (.baload, l, t, z, b, w) pc ls (.int i :: .ref a :: r) h = some (pc + 1, ls, v :: r, h) := by
  dsimp only [am_st]
  rw [hr]
def hd_E (h h' : am_H) : Prop := cq_Inv none h' ∧ cq_Fr [] h h' ∧ h'.1 ≤ h.1 ∧ h'.2.1 ≤ h.2.1
theorem hd_E.v {h h' : am_H} (I : cq_Inv none h) (E : hd_E h h') {c : Nat} (hc : c < 130) (j : Nat) : h'.2.2.2 c j = h.2.2.2 c j := E.2.1.vl c (Nat.lt_of_lt_of_le hc I.lo) j rfl
theorem hd_E.tr {h h1 h2 : am_H} (A : hd_E h h1) (B : hd_E h1 h2) : hd_E h h2 := ⟨B.1, cq_Fr_tr A.2.1 B.2.1 (fun _ z => z), Nat.le_trans B.2.2.1 A.2.2.1, Nat.le_trans B.2.2.2 A.2.2.2⟩
theorem hd_E.rf {h : am_H} (I : cq_Inv none h) : hd_E h h := ⟨I, cq_Fr_rf, Nat.le_refl _, Nat.le_refl _⟩
/-- isCandidate -/
theorem hd_227 {h : am_H} {c k : Int32} {d : Nat} (I : cq_Inv none h) (h53 : h.2.2.2 78 53 = .int k) (hk : 0 ≤ k.toInt ∧ k.toInt ≤ 14) (hd : 1 ≤ d) : ∃ (r : Int32) (h' : am_H), am_ev d 227 0 (am_ent [.ref 78, .int c] (am_in 227).2.2.1) [] h (some (.int r), h') ∧ (r = 0 ∨ (r = 1 ∧ 0 ≤ c.toInt ∧ c.toInt < k.toInt)) ∧ hd_E h h' := by
  let ρ : Nat → Int := fun s => match s with
    | 0 => c.toInt
    | _ => k.toInt
  have z1 := c.le_toInt
  have z2 := c.toInt_lt
  have M0 : cq_Md ct_227c.2.2.2.1 h ρ ct_227c.2.2.1 h := by
    refine cq_Md_p ⟨fun b hb => ?_, fun _ z => (by cases z)⟩ (fun e he => ?_) (fun _ z => (by cases z)) I
    · simp only [List.mem_cons, List.not_mem_nil, or_false] at hb
      rcases hb with rfl | rfl
      · exact ⟨by show -2147483648 ≤ c.toInt; omega, by show c.toInt ≤ 2147483647; omega⟩
      · exact hk
    · rw [List.mem_singleton.1 he]
      exact ⟨k, h53, (cq_s_e ρ 1).symm⟩
  obtain ⟨r, h', ev, x, hx, ρ', a', Mx, hr⟩ := ok_227c d h ρ [.ref 78, .int c] hd M0 ⟨rfl, ⟨c, rfl, (cq_s_e ρ 0).symm⟩, trivial⟩
  simp only [ct_227c, List.mem_cons, List.not_mem_nil, or_false] at hx
  rcases hr with ⟨q1, q2, q3⟩ | ⟨q1, -⟩
  · rcases hx with rfl | rfl
    · cases r with
      | none => exact q3.elim
      | some w =>
        obtain ⟨v, e1, e2⟩ := q3.1
        subst e1
        have e2 : v.toInt = 1 := by rw [e2]; exact cq_c_e ρ' 1
        have f1 := Mx.P.2 (0, [(0, 1)]) List.mem_cons_self
        have f2 := Mx.P.2 ((-1), [(0, (-1)), (1, 1)]) (List.mem_cons_of_mem _ List.mem_cons_self)
        rw [show cq_e ρ' ((0, [(0, 1)]) : cq_F) = ρ' 0 from cq_s_e ρ' 0, a' 0 (by decide)] at f1
        have e4 : cq_e ρ' (((-1), [(0, (-1)), (1, 1)]) : cq_F) = ρ' 1 - ρ' 0 - 1 := by
          simp only [cq_e, cq_eT]
          omega
        rw [e4, a' 0 (by decide), a' 1 (by decide)] at f2
        have f2 : 0 ≤ k.toInt - c.toInt - 1 := f2
        exact ⟨v, h', ev, Or.inr ⟨Int32.toInt_inj.1 (by rw [e2]; decide), f1, by omega⟩, Mx.I, Mx.F, Mx.A⟩
    · cases r with
      | none => exact q3.elim
      | some w =>
        obtain ⟨v, e1, e2⟩ := q3.1
        subst e1
        have e2 : v.toInt = 0 := by rw [e2]; exact cq_c_e ρ' 0
        exact ⟨v, h', ev, Or.inl (Int32.toInt_inj.1 (by rw [e2]; decide)), Mx.I, Mx.F, Mx.A⟩
  · rcases hx with rfl | rfl <;> cases q1
/-- lay's first loop -/
theorem hd_lay {h : am_H} {n k : Int32} {d : Nat} {G : Option Value × am_H → Prop} (I : cq_Inv none h) (hn : 1 ≤ n.toInt ∧ n.toInt ≤ 14) (h53 : h.2.2.2 78 53 = .int k) (hk : 0 ≤ k.toInt ∧ k.toInt ≤ 14) (hd : 1 ≤ d) (g0 : ∀ h1, hd_E h h1 → G (some (.int (-1)), h1)) (g1 : ∀ h1, hd_E h h1 → hd_V h n.toInt k.toInt → ∀ a b c e f, ∃ x, am_ev (d + 1) 247 78 [.ref 78, .int n, a, b, c, e, f] [] h1 x ∧ G x) : ∀ (w j : Nat) (i s : Int32) (v4 v5 v6 : Value) (h1 : am_H), ((w + j : Nat) : Int) = n.toInt → i.toInt = j → hd_E h h1 → (∀ i' : Nat, i' < j → ∃ x : Int32, h.2.2.2 80 i' = .int x ∧ 65 ≤ x.toInt ∧ x.toInt ≤ 64 + k.toInt) → ∃ x, am_ev (d + 1) 247 28 [.ref 78, .int n, .int s, .int i, v4, v5, v6] [] h1 x ∧ G x := by
  intro w
  induction w with
  | zero =>
    intro j i s v4 v5 v6 h1 hj ei E ok
    obtain ⟨x, ev, gx⟩ := g1 h1 E (fun i' hi' => ok i' (by omega)) (.int s) (.int i) v4 v5 v6
    refine ⟨x, ?_, gx⟩
    refine am_ev.step rfl rfl ?_
    refine am_ev.step rfl rfl ?_
    exact am_ev.step (pc' := 78) (ls' := [.ref 78, .int n, .int s, .int i, v4, v5, v6]) (st' := []) (h' := h1) rfl (if_pos (Int32.le_iff_toInt_le.2 (by omega))) ev
  | succ w ih =>
    intro j i s v4 v5 v6 h1 hj ei E ok
    have I1 := E.1
    have O := cq_o78 I1
    have g53 : h1.2.2.2 78 53 = .int k := by rw [E.v I (by decide)]; exact h53
    have gT : h1.2.2.2 78 1 = .ref 80 := by
      have t := cq_t78 I1 (b := 1) (by decide +kernel)
      rw [show cq_cl 13 1 = (3, 0, 0, 80, 0, 0) by decide +kernel] at t
      exact t
    have t80 := cq_tA I1 (c := 80) (j := j) (by decide) (by decide) (by decide +kernel) (by decide) (by rw [show (cq_fix 80).2.2 = 1600 by decide +kernel]; omega)
    rw [show cq_ar 80 = (1, -128, 127, 0, 0, 0) by decide +kernel] at t80
    obtain ⟨a, ea, a0, a1⟩ := t80
    have r80 : am_rd h1 80 i (fun c => Nat.beq c 1 || Nat.beq c 2) = some (.int a) := by
      rw [hd_rd I1 (by decide) (by decide) (by decide +kernel) (by decide +kernel) (by omega) (by rw [show (cq_fix 80).2.2 = 1600 by decide +kernel]; omega)]
      rw [show i.toInt.toNat = j by omega, ea]
    have nle : ¬ (n ≤ i) := fun z => by
      have := Int32.le_iff_toInt_le.1 z
      omega
    obtain ⟨r, h2, ev2, hr, E2⟩ := hd_227 (c := a - (Int8.ofInt 65).toInt32) (d := d) I1 g53 hk hd
    have E3 := E.tr E2
    have head : ∀ x, am_ev (d + 1) 247 50 [.ref 78, .int n, .int s, .int i, .int (a - (Int8.ofInt 65).toInt32), v5, v6] [.int r] h2 x → am_ev (d + 1) 247 28 [.ref 78, .int n, .int s, .int i, v4, v5, v6] [] h1 x := fun x q => by
      refine am_ev.step rfl rfl ?_
      refine am_ev.step rfl rfl ?_
      refine am_ev.step (pc' := 33) (ls' := [.ref 78, .int n, .int s, .int i, v4, v5, v6]) (st' := []) (h' := h1) rfl (if_neg nle) ?_
      refine am_ev.step rfl rfl ?_
      refine am_ev.step rfl (hd_gf O gT) ?_
      refine am_ev.step rfl rfl ?_
      refine am_ev.step rfl (hd_ba r80) ?_
      refine am_ev.step rfl rfl ?_
      refine am_ev.step rfl rfl ?_
      refine am_ev.step rfl rfl ?_
      refine am_ev.step rfl rfl ?_
      refine am_ev.step rfl rfl ?_
      exact hd_cv 227 (as := [.ref 78, .int (a - (Int8.ofInt 65).toInt32)]) (rr := []) rfl (Or.inr (Or.inl ⟨_, rfl⟩)) rfl (by decide) rfl rfl (by decide) O (Nat.le_of_ble_eq_true rfl) ev2 q
    have bad : ∀ h3 (v : Value), am_ev (d + 1) 247 63 [.ref 78, .int n, .int s, .int i, v, v5, v6] [] h3 (some (.int (-1)), h3) := fun h3 v => by
      refine am_ev.step rfl rfl ?_
      exact am_ev.reti rfl rfl rfl
    rcases hr with z | ⟨z, c0, c1⟩
    · subst z
      refine ⟨_, head _ ?_, g0 h2 E3⟩
      exact am_ev.step (pc' := 63) (ls' := [.ref 78, .int n, .int s, .int i, .int (a - (Int8.ofInt 65).toInt32), v5, v6]) (st' := []) (h' := h2) rfl rfl (bad h2 _)
    · subst z
      have ac : (a - (Int8.ofInt 65).toInt32).toInt = a.toInt - 65 := by
        rw [Int32.toInt_sub, show ((Int8.ofInt 65).toInt32).toInt = 65 by decide, Int.bmod_eq_of_le (by omega) (by omega)]
      rw [ac] at c0 c1
      have to53 : ∀ x, am_ev (d + 1) 247 53 [.ref 78, .int n, .int s, .int i, .int (a - (Int8.ofInt 65).toInt32), v5, v6] [] h2 x → am_ev (d + 1) 247 50 [.ref 78, .int n, .int s, .int i, .int (a - (Int8.ofInt 65).toInt32), v5, v6] [.int 1] h2 x := fun x q => am_ev.step (pc' := 53) (ls' := [.ref 78, .int n, .int s, .int i, .int (a - (Int8.ofInt 65).toInt32), v5, v6]) (st' := []) (h' := h2) rfl rfl q
      by_cases hb : (s >>> ((a - (Int8.ofInt 65).toInt32) &&& 31)) &&& 1 = (1 : Int32)
      · refine ⟨_, head _ (to53 _ ?_), g0 h2 E3⟩
        refine am_ev.step rfl rfl ?_
        refine am_ev.step rfl rfl ?_
        refine am_ev.step rfl rfl ?_
        refine am_ev.step rfl rfl ?_
        refine am_ev.step rfl rfl ?_
        refine am_ev.step rfl rfl ?_
        exact am_ev.step (pc' := 63) (ls' := [.ref 78, .int n, .int s, .int i, .int (a - (Int8.ofInt 65).toInt32), v5, v6]) (st' := []) (h' := h2) rfl (if_pos hb) (bad h2 _)
      · obtain ⟨x, ev, gx⟩ := ih (j + 1) (i + Int32.ofInt 1) (s ||| ((1 : Int32) <<< ((a - (Int8.ofInt 65).toInt32) &&& 31))) (.int (a - (Int8.ofInt 65).toInt32)) v5 v6 h2 (by omega) (hd_inc ei (by omega)) E3 (fun i' hi' => by
          by_cases e : i' = j
          · subst e
            refine ⟨a, ?_, by omega, by omega⟩
            rw [← E.v I (by decide)]
            exact ea
          · exact ok i' (by omega))
        refine ⟨x, head _ (to53 _ ?_), gx⟩
        refine am_ev.step rfl rfl ?_
        refine am_ev.step rfl rfl ?_
        refine am_ev.step rfl rfl ?_
        refine am_ev.step rfl rfl ?_
        refine am_ev.step rfl rfl ?_
        refine am_ev.step rfl rfl ?_
        refine am_ev.step (pc' := 65) (ls' := [.ref 78, .int n, .int s, .int i, .int (a - (Int8.ofInt 65).toInt32), v5, v6]) (st' := []) (h' := h2) rfl (if_neg hb) ?_
        refine am_ev.step rfl rfl ?_
        refine am_ev.step rfl rfl ?_
        refine am_ev.step rfl rfl ?_
        refine am_ev.step rfl rfl ?_
        refine am_ev.step rfl rfl ?_
        refine am_ev.step rfl rfl ?_
        refine am_ev.step rfl rfl ?_
        exact am_ev.step rfl rfl ev
