/-! BY HAND, 14: findBreaks and breakAt -/
theorem hd_fok32 (x : Int32) : am_fok (am_ty 13 32) (.int x) = true := rfl
/-- a write of breakMany, and of a break -/
theorem hd_I32 {h : am_H} (I : cq_Inv none h) {x : Int32} (h0 : 0 ≤ x.toInt) (h1 : x.toInt ≤ 30) : cq_Inv none (am_put h 78 32 (.int x)) := by
  refine cq_Inv_put I (by decide) (by have := I.lo; omega) (fun _ => ?_) (fun z => by omega) (fun z => by omega) (fun z => by omega) (fun z => by omega) (by decide)
  have et : cq_tyOf 78 (h.2.2.1 78) 32 = (1, 0, 30, 0, 0, 0) := by
    rw [I.fx 78 (by decide) (by decide)]
    decide +kernel
  rw [et]
  exact ⟨x, rfl, h0, h1⟩
theorem hd_I100 {h : am_H} (I : cq_Inv none h) {j : Nat} {x : Int32} : cq_Inv none (am_put h 100 j (.int x)) := by
  refine cq_Inv_put I (by decide) (by have := I.lo; omega) (fun _ => ?_) (fun z => by omega) (fun z => by omega) (fun z => by omega) (fun z => by omega) (by decide)
  have et : cq_tyOf 100 (h.2.2.1 100) j = (1, -2147483648, 2147483647, 0, 0, 0) := by
    unfold cq_tyOf cq_ty
    rw [show Nat.blt 100 130 = true by decide, show cq_isA 100 = true by decide +kernel, show ((Nat.beq 100 81 || Nat.beq 100 83) && Nat.beq j 1) = false by rw [show (Nat.beq 100 81 || Nat.beq 100 83) = false by decide]; rfl]
    show cq_ar 100 = _
    decide +kernel
  rw [et]
  have z1 := x.le_toInt
  have z2 := x.toInt_lt
  exact ⟨x, rfl, by omega, by omega⟩
section HDW
variable {hB hP : am_H} {t : Int32} {n d : Nat}
/-- the outer loop of findBreaks -/
theorem hd_fb2 (I : cq_Inv none hB) (P : hd_P hB hP) (ht : 0 ≤ t.toInt ∧ t.toInt ≤ 119) (hl : cq_n hB 93 t.toInt.toNat = n) (n30 : n ≤ 30) (hd : 2 ≤ d) (f0 : hd_i hP 98 n = 0) (S : ∀ i', i' < n → hd_i hP 98 i' = hd_NV ∨ ∃ j', hd_C hB hP t n i' j') : ∀ (m i : Nat) (ii b : Int32) (v3 : Value) (hc : am_H), n ≤ m + i → i ≤ n → ii.toInt = i → cq_Inv none hc → hd_B hP hc → hc.2.2.2 78 32 = .int b → 0 ≤ b.toInt → b.toInt ≤ i → hd_i hP 98 i < hd_NV → ∃ hc', am_ev (d + 1) 203 7 [.ref 78, .int t, .int ii, v3] [] hc (none, hc') ∧ cq_Inv none hc' ∧ hd_B hP hc' := by
  intro m
  induction m with
  | zero =>
    intro i ii b v3 hc hm hi ei Ic B eb b0 b1 fi
    have : i = n := by omega
    subst this
    refine ⟨hc, ?_, Ic, B⟩
    have O := cq_o78 Ic
    have f29 : hc.2.2.2 78 29 = .ref 98 := by rw [B.2 78 29 (by decide) (by decide)]; exact P.f29 I
    obtain ⟨m1, m2⟩ := P.sh I (c := 98) (tc := 0) (ln := 31) (by decide) (by decide) (by decide +kernel)
    have rd : am_rd hc 98 ii (fun c => Nat.beq c 0) = some (.int (hd_i hP 98 i)) := by
      rw [hd_rdS (show 98 < hc.1 by rw [B.1.1]; exact m1) (show hc.2.2.1 98 = (1, 0, 31) by rw [B.1.2.2]; exact m2) (by decide) (by omega) (by omega), show ii.toInt.toNat = i by omega, B.2 98 i (by decide) (by omega), P.2.2.1 i (by omega)]
    rw [f0] at rd
    refine am_ev.step rfl rfl ?_
    refine am_ev.step rfl (hd_gf O f29) ?_
    refine am_ev.step rfl rfl ?_
    refine am_ev.step rfl (hd_ia rd) ?_
    refine am_ev.step rfl rfl ?_
    refine am_ev.step (pc' := 123) (ls' := [.ref 78, .int t, .int ii, v3]) (st' := []) (h' := hc) rfl rfl ?_
    exact am_ev.retv rfl rfl
  | succ m ih =>
    intro i ii b v3 hc hm hi ei Ic B eb b0 b1 fi
    have O := cq_o78 Ic
    have f29 : hc.2.2.2 78 29 = .ref 98 := by rw [B.2 78 29 (by decide) (by decide)]; exact P.f29 I
    obtain ⟨m1, m2⟩ := P.sh I (c := 98) (tc := 0) (ln := 31) (by decide) (by decide) (by decide +kernel)
    have rd : am_rd hc 98 ii (fun c => Nat.beq c 0) = some (.int (hd_i hP 98 i)) := by
      rw [hd_rdS (show 98 < hc.1 by rw [B.1.1]; exact m1) (show hc.2.2.1 98 = (1, 0, 31) by rw [B.1.2.2]; exact m2) (by decide) (by omega) (by omega), show ii.toInt.toNat = i by omega, B.2 98 i (by decide) (by omega), P.2.2.1 i (by omega)]
    have to14 : ∀ x, am_ev (d + 1) 203 14 [.ref 78, .int t, .int ii, v3] [.int (Int32.ofInt 1), .int (hd_i hP 98 i)] hc x → am_ev (d + 1) 203 7 [.ref 78, .int t, .int ii, v3] [] hc x := fun x q => by
      refine am_ev.step rfl rfl ?_
      refine am_ev.step rfl (hd_gf O f29) ?_
      refine am_ev.step rfl rfl ?_
      refine am_ev.step rfl (hd_ia rd) ?_
      exact am_ev.step rfl rfl q
    by_cases c1 : hd_i hP 98 i ≤ Int32.ofInt 1
    · refine ⟨hc, to14 _ ?_, Ic, B⟩
      refine am_ev.step (pc' := 123) (ls' := [.ref 78, .int t, .int ii, v3]) (st' := []) (h' := hc) rfl (if_pos c1) ?_
      exact am_ev.retv rfl rfl
    · have hin : i < n := by
        rcases (show i < n ∨ i = n by omega) with z | z
        · exact z
        · exfalso
          rw [z, f0] at c1
          exact c1 (by decide)
      rcases S i hin with z | ⟨J, C⟩
      · exfalso
        rw [z] at fi
        exact hd_nle fi (Int32.le_iff_toInt_le.2 (Int.le_refl _))
      · obtain ⟨j2, j3, r1, r2, r3, r4, Q⟩ := hd_fb1 (d := d) I P ht hl n30 ei hd B Ic C (J - i) i ii (by have := C.1; omega) ei (Nat.le_refl _)
        have ej := hd_inc r3 (by omega)
        have f31 : hc.2.2.2 78 31 = .ref 100 := by
          have z := cq_t78 Ic (b := 31) (by decide +kernel)
          rw [show cq_cl 13 31 = (3, 0, 0, 100, 0, 0) by decide +kernel] at z
          exact z
        have w100 : am_wr hc 100 b 0 (.int j3) = some (am_put hc 100 b.toInt.toNat (.int j3)) := hd_wrS (ln := 30) (by have := Ic.lo; omega) (by rw [Ic.fx 100 (by decide) (by decide)]; decide +kernel) b0 (by omega)
        have I1 : cq_Inv none (am_put hc 100 b.toInt.toNat (.int j3)) := hd_I100 Ic
        have O1 := cq_o78 I1
        have bb : (b + Int32.ofInt 1).toInt = b.toInt + 1 := by
          rw [hd_toA (by omega) (by omega) (by decide) (by decide), show (Int32.ofInt 1).toInt = 1 by decide]
        have I2 := hd_I32 I1 (x := b + Int32.ofInt 1) (by omega) (by omega)
        have B2 : hd_B hP (am_put (am_put hc 100 b.toInt.toNat (.int j3)) 78 32 (.int (b + Int32.ofInt 1))) := ⟨B.1, fun c j h1 h2 => by rw [hd_pv (by omega), hd_pv (by omega)]; exact B.2 c j h1 h2⟩
        obtain ⟨hc', ev, I', B'⟩ := ih (j2 + 1) (j3 + Int32.ofInt 1) (b + Int32.ofInt 1) (.int j3) _ (by omega) (by omega) ej I2 B2 hd_pe (by omega) (by omega) r4
        refine ⟨hc', to14 _ ?_, I', B'⟩
        refine am_ev.step (pc' := 17) (ls' := [.ref 78, .int t, .int ii, v3]) (st' := []) (h' := hc) rfl (if_neg c1) ?_
        refine am_ev.step rfl rfl ?_
        refine am_ev.step rfl rfl ?_
        refine Q _ ?_
        refine am_ev.step rfl rfl ?_
        refine am_ev.step rfl (hd_gf O f31) ?_
        refine am_ev.step rfl rfl ?_
        refine am_ev.step rfl (hd_gf O eb) ?_
        refine am_ev.step rfl rfl ?_
        refine am_ev.step rfl (hd_is w100) ?_
        refine am_ev.step rfl rfl ?_
        refine am_ev.step rfl rfl ?_
        refine am_ev.step rfl (hd_gf O1 (show (am_put hc 100 b.toInt.toNat (.int j3)).2.2.2 78 32 = .int b by rw [hd_pv (by omega)]; exact eb)) ?_
        refine am_ev.step rfl rfl ?_
        refine am_ev.step rfl rfl ?_
        refine am_ev.step rfl (hd_pf O1 (hd_fok32 _)) ?_
        refine am_ev.step rfl rfl ?_
        refine am_ev.step rfl rfl ?_
        refine am_ev.step rfl rfl ?_
        refine am_ev.step rfl rfl ?_
        exact am_ev.step rfl rfl ev
/-- findBreaks -/
theorem hd_203 (I : cq_Inv none hB) (P : hd_P hB hP) (IP : cq_Inv none hP) (ht : 0 ≤ t.toInt ∧ t.toInt ≤ 119) (hl : cq_n hB 93 t.toInt.toNat = n) (n30 : n ≤ 30) (hd : 3 ≤ d) (f0 : hd_i hP 98 n = 0) (S : ∀ i', i' < n → hd_i hP 98 i' = hd_NV ∨ ∃ j', hd_C hB hP t n i' j') (fi : hd_i hP 98 0 < hd_NV) : ∃ hc', am_ev d 203 0 (am_ent [.ref 78, .int t] (am_in 203).2.2.1) [] hP (none, hc') ∧ cq_Inv none hc' ∧ hd_B hP hc' := by
  cases d with
  | zero => omega
  | succ d =>
    have O := cq_o78 IP
    have I1 := hd_I32 IP (x := Int32.ofInt 0) (by decide) (by decide)
    obtain ⟨hc', ev, I', B'⟩ := hd_fb2 (d := d) I P ht hl n30 (by omega) f0 S n 0 (Int32.ofInt 0) (Int32.ofInt 0) am_ph _ (by omega) (by omega) (by decide) I1 ⟨⟨rfl, rfl, rfl⟩, fun c j h1 h2 => hd_pv (by omega)⟩ hd_pe (by decide) (by decide) fi
    refine ⟨hc', ?_, I', B'⟩
    refine am_ev.step rfl rfl ?_
    refine am_ev.step rfl rfl ?_
    refine am_ev.step rfl (hd_pf O (hd_fok32 _)) ?_
    refine am_ev.step rfl rfl ?_
    exact am_ev.step rfl rfl ev
end HDW
def cq_z202 : cq_Z := (202, 33, [cq_rc 78, cq_u, cq_u, cq_i (cq_s 2)], [], [], 5, ct_202m.2.2.1)
theorem ex_202m : cq_exec (cq_nx ct_202m.2.2.2.1 (cq_ckx ct_202m) (cq_cl0 ct_202m.2.2.2.1 (cq_ckx ct_202m) cq_t0)) (fun _ => none) 202 100000 [] cq_z202 = true := by decide +kernel
/-- breakAt behind findBreaks -/
theorem hd_br {h : am_H} {i : Int32} {d : Nat} (I : cq_Inv none h) (hd : 5 ≤ d) (a b : Value) : ∃ (r : Int32) (h' : am_H), am_ev d 202 33 [.ref 78, a, b, .int i] [] h (some (.int r), h') ∧ hd_E h h' := by
  have z1 := i.le_toInt
  have z2 := i.toInt_lt
  have M0 : cq_Md ct_202m.2.2.2.1 h (fun _ => i.toInt) ct_202m.2.2.1 h := by
    refine cq_Md_p ⟨fun b hb => ?_, fun _ z => (by cases z)⟩ (fun _ z => (by cases z)) (fun _ z => (by cases z)) I
    simp only [List.mem_cons, List.not_mem_nil, or_false] at hb
    rcases hb with rfl | rfl | rfl <;> exact ⟨by show (-2147483648 : Int) ≤ i.toInt; omega, by show i.toInt ≤ 2147483647; omega⟩
  have NX := cq_NX_of (c := ct_202m) (ρ := fun _ => i.toInt) wf_202m (cq_t0_ok h I)
  have w1 := (Bool.and_eq_true _ _ ▸ wf_202m)
  have w0 := (Bool.and_eq_true _ _ ▸ w1.1)
  have w2 := (Bool.and_eq_true _ _ ▸ w0.1)
  have G := cq_exec_ok (Fin := cq_Fin ct_202m h (fun _ => i.toInt)) (n0 := 3) (ρ0 := fun _ => i.toInt) (fun a hn hq H hd K => NX _ _ _ _ _ _ _ _ a hn hq H hd K) 100000 [] cq_z202 (fun _ => i.toInt) [.ref 78, a, b, .int i] [] h [] d ex_202m cq_ag.rf (Nat.le_refl _) (fun ρ' a' => ⟨cq_wf_ag w2.1 a' M0, ⟨rfl, trivial, trivial, ⟨i, rfl, by rw [cq_s_e, a' 2 (by decide)]⟩, trivial⟩, trivial, trivial⟩) hd (fun R hR => by cases hR)
  obtain ⟨⟨r, h'⟩, ev, x, hx, ρ', a', Mx, hr⟩ := G
  have hx := List.mem_singleton.1 hx
  subst hx
  rcases hr with ⟨q1, q2, q3⟩ | ⟨q1, -⟩
  · cases r with
    | none => exact q3.elim
    | some w =>
      obtain ⟨v, e1, e2⟩ := q3.1
      subst e1
      exact ⟨v, h', ev, Mx.I, Mx.F, Mx.A⟩
  · cases q1
def cq_ck15 (Z : cq_Z) : Bool := match Z with
  | (_, _, [(5, _, k), (1, fp, _), (1, fe, _), (1, _, _)], [(1, ft, _), (5, _, k2)], [], db, S) => Nat.beq k 78 && Nat.beq k2 78 && cq_inE S.P fp 0 39 && cq_inE S.P fe 0 2 && cq_fe ft (cq_add (cq_sc 3 fp) fe) && S.U.isNone && Nat.beq S.ac 0 && Nat.beq S.al 0 && Nat.ble 5 db
  | _ => false
theorem hd_cvv {d y pc : Nat} {ls : List Value} {h : am_H} {x : Option Value × am_H} {e : am_E} {as rr : List Value} {h2 : am_H} {st : List Value} (z : Nat) (hc : am_at y pc e) (hi : am_isC e.1) (ez : e.2.2.2.1 = z) (nz : (Nat.blt 0 z && Nat.blt z 264 && !Nat.beq z 10 && !Nat.beq z 57) = true) (hst : st = as.reverse ++ rr) (hlen : as.length = (am_in z).2.1) (hcs : am_cs rr ≤ 8) (hrcv : am_rcv z as h = true) (hw : (am_wid as).length ≤ (am_in z).2.2.1) (q1 : am_ev d z 0 (am_ent as (am_in z).2.2.1) [] h (none, h2)) (q2 : am_ev (d + 1) y (pc + 3) ls rr h2 x) : am_ev (d + 1) y pc ls st h x := by
  subst ez
  have n1 := (Bool.and_eq_true _ _ ▸ nz)
  have n2 := (Bool.and_eq_true _ _ ▸ n1.1)
  have n3 := (Bool.and_eq_true _ _ ▸ n2.1)
  refine am_ev.call hc hi ⟨Nat.le_of_ble_eq_true n3.1, Nat.le_of_ble_eq_true n3.2, fun z => ?_, fun z => ?_⟩ hst hlen hcs hrcv hw q1 rfl q2
  · have := n2.2
    rw [z] at this
    cases this
  · have := n1.2
    rw [z] at this
    cases this
/-- breakAt from where its pages are found -/
theorem hd_bk {h : am_H} {p e i tv : Int32} {d : Nat} (I : cq_Inv none h) (hp : 0 ≤ p.toInt ∧ p.toInt ≤ 39) (he : 0 ≤ e.toInt ∧ e.toInt ≤ 2) (ht : tv.toInt = 3 * p.toInt + e.toInt) (hd : 4 ≤ d) : ∃ (r : Int32) (h' : am_H), am_ev (d + 1) 202 15 [.ref 78, .int p, .int e, .int i] [.int tv, .ref 78] h (some (.int r), h') ∧ cq_Inv none h' ∧ cq_Fr ct_202.2.2.2.1 h h' ∧ h'.1 ≤ h.1 ∧ h'.2.1 ≤ h.2.1 := by
  obtain ⟨n, hP, r, a1, a2, ev, P, IP, f0, S, hr⟩ := hd_197 (t := tv) (d := d) I (by omega) hd
  have O := cq_o78 I
  have OP := cq_o78 IP
  have call : ∀ x, am_ev (d + 1) 202 18 [.ref 78, .int p, .int e, .int i] [.int r] hP x → am_ev (d + 1) 202 15 [.ref 78, .int p, .int e, .int i] [.int tv, .ref 78] h x := fun x q => hd_cv 197 (as := [.ref 78, .int tv]) (rr := []) rfl (Or.inr (Or.inl ⟨_, rfl⟩)) rfl (by decide) rfl rfl (by decide) O (Nat.le_of_ble_eq_true rfl) ev q
  have FP : cq_Fr ct_202.2.2.2.1 h hP := by
    refine ⟨by rw [P.1.1]; exact Nat.le_refl _, fun c _ => by rw [P.1.2.2], fun c _ j hw => P.2.1 c j (fun z => ?_) (fun z => ?_)⟩
    · rw [z] at hw; cases hw
    · rw [z] at hw; cases hw
  by_cases c : r = -1
  · refine ⟨-1, hP, call _ ?_, IP, FP, by rw [P.1.1]; exact Nat.le_refl _, by rw [P.1.2.1]; exact Nat.le_refl _⟩
    refine am_ev.step rfl rfl ?_
    refine am_ev.step (pc' := 22) (ls' := [.ref 78, .int p, .int e, .int i]) (st' := []) (h' := hP) rfl (if_pos c) ?_
    refine am_ev.step rfl rfl ?_
    exact am_ev.reti rfl rfl rfl
  · have tx : (Int32.ofInt 3 * p + e).toInt = 3 * p.toInt + e.toInt := hd_l3 (by omega) (by omega) (by omega) (by omega)
    have et : Int32.ofInt 3 * p + e = tv := Int32.toInt_inj.1 (by rw [tx, ht])
    obtain ⟨hQ, evQ, IQ, BQ⟩ := hd_203 (d := d) I P IP (t := tv) (by omega) a1 a2 (by omega) f0 S (hr.resolve_left c)
    obtain ⟨r2, h', ev2, E2⟩ := hd_br (i := i) (d := d + 1) IQ (by omega) (.int p) (.int e)
    refine ⟨r2, h', call _ ?_, E2.1, ?_, ?_, ?_⟩
    · refine am_ev.step rfl rfl ?_
      refine am_ev.step (pc' := 24) (ls' := [.ref 78, .int p, .int e, .int i]) (st' := []) (h' := hP) rfl (if_neg c) ?_
      refine am_ev.step rfl rfl ?_
      refine am_ev.step rfl rfl ?_
      refine am_ev.step rfl rfl ?_
      refine hd_cv 194 (as := [.int p, .int e]) (rr := [.ref 78]) rfl (Or.inl ⟨_, rfl⟩) rfl (by decide) rfl rfl (Nat.le_of_ble_eq_true rfl) rfl (Nat.le_of_ble_eq_true rfl) hd_194 ?_
      rw [et]
      exact hd_cvv 203 (as := [.ref 78, .int tv]) (rr := []) rfl (Or.inr (Or.inl ⟨_, rfl⟩)) rfl (by decide) rfl rfl (by decide) OP (Nat.le_of_ble_eq_true rfl) evQ ev2
    · refine cq_Fr_tr (cq_Fr_tr FP (mc := ct_202.2.2.2.1) ?_ (fun _ z => z)) E2.2.1 (fun _ z => by cases z)
      refine ⟨by rw [BQ.1.1]; exact Nat.le_refl _, fun c _ => by rw [BQ.1.2.2], fun c _ j hw => BQ.2 c j (fun z => ?_) (fun z => ?_)⟩
      · rw [z] at hw; cases hw
      · rw [z.1, z.2] at hw; cases hw
    · have := E2.2.2.1
      rw [BQ.1.1, P.1.1] at this
      exact this
    · have := E2.2.2.2
      rw [BQ.1.2.1, P.1.2.1] at this
      exact this
theorem ok_202 : cq_CT 202 ct_202 := by
  refine cq_methN (f := 100000) (nx := cq_nxo 202 15 cq_ck15 (cq_nx ct_202.2.2.2.1 (cq_ckx ct_202) (cq_cl0 ct_202.2.2.2.1 (cq_ckx ct_202) cq_t0))) (lps := fun _ => none) wf_202 (by decide +kernel) (fun h ρ as M g => cq_nxo_ok ?_ (cq_NX_of wf_202 (cq_t0_ok h (cq_Inv0 wf_202 M)))) (by decide +kernel)
  intro Z ρ1 ls st h2 d a hn hc R hd
  obtain ⟨y, pc, als, ast, fr, db, S⟩ := Z
  unfold cq_ck15 at hc
  split at hc
  · rename_i y' pc' ff k fp kp fe ke fi ki ft kt ff2 k2 db' S' heq
    cases heq
    have c1 := (Bool.and_eq_true _ _ ▸ hc)
    have c2 := (Bool.and_eq_true _ _ ▸ c1.1)
    have c3 := (Bool.and_eq_true _ _ ▸ c2.1)
    have c4 := (Bool.and_eq_true _ _ ▸ c3.1)
    have c5 := (Bool.and_eq_true _ _ ▸ c4.1)
    have c6 := (Bool.and_eq_true _ _ ▸ c5.1)
    have c7 := (Bool.and_eq_true _ _ ▸ c6.1)
    have c8 := (Bool.and_eq_true _ _ ▸ c7.1)
    obtain ⟨D, g1, g2, -⟩ := R ρ1 cq_ag.rf
    dsimp only at D g1 g2
    obtain ⟨u0, r0, e0, G0, g1⟩ := cq_gs_cons g1
    obtain ⟨u1, r1, e1, G1, g1⟩ := cq_gs_cons g1
    obtain ⟨u2, r2, e2, G2, g1⟩ := cq_gs_cons g1
    obtain ⟨u3, r3, e3, G3, g1⟩ := cq_gs_cons g1
    have e7 := cq_gs_nil g1
    obtain ⟨w0, s0, f0, H0, g2⟩ := cq_gs_cons g2
    obtain ⟨w1, s1, f1, H1, g2⟩ := cq_gs_cons g2
    have e8 := cq_gs_nil g2
    subst e0 e1 e2 e3 e7 f0 f1 e8
    have G0 : u0 = .ref k := G0
    rw [am_beq c8.1] at G0
    have H1 : w1 = .ref k2 := H1
    rw [am_beq c8.2] at H1
    obtain ⟨p, ep, hp⟩ := G1
    obtain ⟨e, ee, he⟩ := G2
    obtain ⟨i, ei, hi⟩ := G3
    obtain ⟨tv, et, ht⟩ := H0
    subst G0 H1 ep ee ei et
    have bp := cq_inE_ok D.P c7.2
    have be := cq_inE_ok D.P c6.2
    rw [cq_fe_ok c5.2, cq_add_e, cq_sc_e] at ht
    have I : cq_Inv none h2 := by
      have I := D.I
      rw [Option.isNone_iff_eq_none.1 c4.2] at I
      exact I
    have A := D.A
    rw [am_beq c3.2, am_beq c2.2] at A
    have hd1 := Nat.le_of_ble_eq_true c1.2
    dsimp only at hd
    cases d with
    | zero => omega
    | succ d =>
      obtain ⟨r, h', ev, I', F', A1, A2⟩ := hd_bk (p := p) (e := e) (i := i) (tv := tv) (d := d) I (by omega) (by omega) (by omega) (by omega)
      refine ⟨_, ev, _, List.mem_cons_self, fun s => if s < 3 then ρ s else r.toInt, fun s hs => if_pos hs, cq_Md_s ⟨fun b hb => ?_, fun _ z => (by cases z)⟩ I' (cq_Fr_tr D.F F' (fun _ z => z)) ⟨by have := A.1; show h'.1 ≤ h.1 + 0; omega, by have := A.2; show h'.2.1 ≤ h.2.1 + 0; omega⟩, Or.inl ⟨rfl, rfl, ⟨r, rfl, ?_⟩, trivial⟩⟩
      · rw [List.mem_singleton.1 hb]
        have z1 := r.le_toInt
        have z2 := r.toInt_lt
        exact ⟨by show (-2147483648 : Int) ≤ r.toInt; omega, by show r.toInt ≤ 2147483647; omega⟩
      · exact (cq_s_e (fun s => if s < 3 then ρ s else r.toInt) 3).symm
  · cases hc
