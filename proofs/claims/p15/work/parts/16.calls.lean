/-! CALLS, II: of methods with a table of handlers (on roads where none of it is taken); of any method of the tables -/
section AMW
variable {p : Program} {l : Launch} {e : Env} {R : Room} {s : State} {m : MethodId} {args : Array Value} {below : List Frame} {meth : Method} {c : Code} {T : State} {locs : List Loc} {cells slots : Nat} {H : Heap}
theorem am_callVW (X : Stand p l e R s m args below meth c T locs cells slots) (hexec : p.tables.exec = Jvm.exec) {own C : String} {index : Nat} {y : MethodName} {bytes : ByteArray} {maxL : Nat} {ret : Option FieldType} {hh : List (Nat × Nat × Nat × Nat)}
    (hown : s.vm.findClass own = some m.cls) (hlink : (Cond.methodLink own index y).before args s = true) (hinst : (Cond.instanceMethod y).before args s = true) (hsel : (Cond.selects C y y).before args s = true)
    (hcode : (Cond.codeWith y bytes maxL ret hh).before args s = true) (hy : y.cls ≠ "java/lang/invoke/MethodHandle" ∧ y.cls ≠ "java/lang/invoke/VarHandle")
    {W : Nat} {Pre : Pt → Array Value → Prop} {Post : Pt → Array Value → Option Value → Pt → Prop} (hK : Back l R p e below s args y 3 W Pre Post)
    {b : Addr} {cellB : Cell} (hcell : T.heap[b]? = some cellB) (hobj : cellB.vm.isStatics = false) (hcls : s.vm.findClass C = some cellB.cls)
    {g : JFrame} (hg : g.method = m) (hsize : g.locals.size = c.maxLocals) {argsL rest : List Value} (hlen : ∀ sig, parseMethodDescriptor y.desc = some sig → argsL.length = sig.parameters.length)
    (hstack : g.stack = argsL.reverse ++ .ref b :: rest) (hW : 2 * g.monitorRoom + (rest.map fun v => v.category).sum ≤ W) (hdg : decode c.code g.pc = .ok (.invokevirtual index, 3))
    (hpre : ∀ vm₁, s.WarmedH vm₁ → Pre ⟨T.setVm vm₁, locs, cells, slots⟩ (Value.ref b :: argsL).toArray) :
    ∃ (v : Option Value) (vm₁ : Vm) (B : Pt), s.WarmedH vm₁ ∧ Stand p l e R s m args below meth c B.U B.locs B.cells B.slots ∧ Post ⟨T.setVm vm₁, locs, cells, slots⟩ (Value.ref b :: argsL).toArray v B ∧
      ∀ target, Steps p.tables e below (B.U.setTop { g with pc := g.pc + 3, stack := v.toList ++ rest }) target → Steps p.tables e below (T.setTop g) target := by
  obtain ⟨mk, methM, hnamed, hmethM, hstM, habM⟩ := Cond.instanceMethod_spec hinst
  obtain ⟨m9, methM', cM, hn9, hmethM', -, -, -, -, -, -, hsigM⟩ := Cond.codeWith_spec hcode
  cases hnamed.symm.trans hn9
  cases hmethM.symm.trans hmethM'
  obtain ⟨c2, r2, m2, q1, q2, q3, q4, kP, hkP, hkPi⟩ := Cond.selects_spec hsel
  cases hcls.symm.trans q1
  cases (State.methodFound?_of_named hnamed hy).symm.trans q2
  cases hnamed.symm.trans q3
  have hselP : selectMethod e.platform s.vm cellB.cls mk = .method mk := by rw [Launch.admits_selectMethod X.admits]; exact q4
  obtain ⟨vm₁, X₁, hstep₁⟩ := X.invokevirtual hexec hown hlink hnamed hmethM hstM hkP hkPi hy (a := b) (cell := cellB) hcell
    (fun z h => by rw [h] at hobj; cases hobj) hselP hmethM habM hkP hkPi (g := g) hg (argsL := argsL) (rest := rest) (hlen _ hsigM) hstack hdg
  obtain ⟨v, B, X', hpost, hsteps⟩ := hK m meth c ⟨T.setVm vm₁, locs, cells, slots⟩ { g with stack := rest } (.invokevirtual index) mk (Value.ref b :: argsL).toArray X₁ hg hsize hdg hW (X₁.named hnamed) (hpre vm₁ X₁.warmed)
  exact ⟨v, vm₁, B, X₁.warmed, X', hpost, fun target h => hstep₁ _ fun acts => by rw [doInvoke_state]; exact hsteps.trans h⟩
theorem am_runVW {y : MethodName} {bytes cc : ByteArray} {maxL nL mc ms n index : Nat} {ret : Option FieldType} {hh : List (Nat × Nat × Nat × Nat)} {ws : List Cond} {rm : Room} {Pc : Array Value → State → Prop} {Qc : Array Value → State → Outcome → State → Prop} {free : Addr → Prop} {Ts : List Cond} {own C : String} {b : Addr} {As rest : List Value} {g : JFrame}
    (S : CallFix p m c cc nL s args Ts own) (hM : Met l y ws rm Pc Qc mc ms free) (hrc : rm.cells = mc) (hrs : rm.slots = ms) (hfr : rm.frames + 1 ≤ R.frames) (hlo : 8 + (maxL + 11) + rm.locals ≤ R.locals)
    (hws : ∀ w ∈ ws, ∀ (a' : Array Value) (U : State), s.WarmedH U.vm → w.before a' U = true) (hcw : Cond.codeWith y bytes maxL ret hh ∈ ws) (hcode : (Cond.codeWith y bytes maxL ret hh).before args s = true) (hini : (Cond.initialized y.cls).before args s = true) (hy : y.cls ≠ "java/lang/invoke/MethodHandle" ∧ y.cls ≠ "java/lang/invoke/VarHandle") (hlen : ∀ sig, parseMethodDescriptor y.desc = some sig → n = sig.parameters.length) (hl : (Cond.methodLink own index y).before args s = true) (hin : (Cond.instanceMethod y).before args s = true) (hse : (Cond.selects C y y).before args s = true) (hp : PreV s H C b Pc As)
    (hg : g.method = m) (hn : As.length = n) (hsize : g.locals.size = nL) (hstack : g.stack = As.reverse ++ .ref b :: rest) (hW : 2 * g.monitorRoom + (rest.map fun v => v.category).sum ≤ 8) (hdg : decode cc g.pc = .ok (.invokevirtual index, 3)) (hf : cells + mc ≤ R.cells ∧ slots + ms ≤ R.slots) :
    va_Run p l e R s m args below meth c H locs cells slots mc ms g rest (Qc (Value.ref b :: As).toArray) (free) := by
  have hK : Back l R p e below s args y 3 8 (PreOf R mc ms Pc) (PostOf Qc mc ms free) := va_backW (hh := hh) (bytes := bytes) (maxL := maxL) (ret := ret) hM hp.1 hrc hrs hfr hlo hws hcw (fun a' U hW => word_at hW (Or.inl (by first | rfl | simp [Cond.onTables, Cond.keeps, Cond.steady])) hini)
  obtain ⟨hx, hb, hml, ho, -⟩ := S
  obtain ⟨-, ⟨cellB, hcB, hoB, hclB⟩, hPc⟩ := hp
  intro T hT X
  obtain ⟨v, vm₁, ⟨U', l2, c2, s2⟩, hW₁, X', ⟨g', mk, t, L, e1, e2, hq, h1, hL, h2, h3⟩, st⟩ := am_callVW X hx (C := C) (bytes := bytes) (maxL := maxL) (ret := ret) (hh := hh) ho hl hin hse hcode hy hK (by rw [hT]; exact hcB) hoB hclB hg (hsize.trans hml.symm) (argsL := As) (rest := rest) (fun sig h => hn.trans (hlen sig h)) hstack hW (by rw [hb]; exact hdg)
    (fun vm₁ hW₁ => ⟨hf.1, hf.2, hPc (T.setVm vm₁) hT hW₁⟩)
  dsimp only [Pt.U, Pt.locs, Pt.cells, Pt.slots] at X' e1 e2 h1 h2 h3 st
  subst h1; subst h2; subst h3
  exact ⟨v, (T.setVm vm₁).calling g' mk (Value.ref b :: As).toArray, t, U', L, hT, X', hL, e1, e2, hq, st⟩
end AMW
section AMC2
variable {p : Program} {l : Launch} {e : Env} {R : Room} {s : State} {m : MethodId} {args : Array Value} {below : List Frame} {meth : Method} {c : Code} {Q : State → Prop} {D : va_G} {dA : Nat → ClassId} {B0 : Nat} {ca : Nat → Nat} {y : Nat} {h0 : am_H} {pc : Nat} {ls st : List Value} {h h1 : am_H}
theorem am_stk {as rest st : List Value} (hst : st = as.reverse ++ rest) (f : Value → Value) : st.map f = (as.map f).reverse ++ rest.map f := by
  rw [hst, List.map_append, List.map_reverse]
theorem am_kind3 {z : Nat} (hz : am_Mk z) : (am_in z).2.2.2 = 0 ∨ (am_in z).2.2.2 = 1 ∨ (am_in z).2.2.2 = 2 ∨ (am_in z).2.2.2 = 3 := by
  have := hz.2.2.2.2.2.2.2.2.1
  omega
theorem am_recvC {x ci : Nat} {H : Heap} {locs : List Loc} (hT : am_Tab D dA ca s) (hO : am_Ok s D dA B0 ca h H locs) (hi : am_isO h x ci = true) (hci : ci < 14) : ∃ cellB : Cell, H[am_ad B0 ca x]? = some cellB ∧ cellB.vm.isStatics = false ∧ s.vm.findClass (am_cn ci) = some cellB.cls := by
  obtain ⟨-, cell, q1, q2, q3, -⟩ := am_obj hO hi hci
  refine ⟨cell, q1, by rw [q3]; rfl, ?_⟩
  rw [q2]
  exact (hT.1.1 ci _ (am_cl ci hci)).2.1
theorem am_k_call {i : Instr} {z d index : Nat} {as rest : List Value} {r : Option Value} (C : am_Cx p s m args meth c D dA B0 ca y) (hz : am_Mk z) (hst : st = as.reverse ++ rest) (hlen : as.length = (am_in z).2.1)
    (hk : (i = .invokestatic index ∧ (am_in z).2.2.2 = 1) ∨ (i = .invokevirtual index ∧ ((am_in z).2.2.2 = 0 ∨ (am_in z).2.2.2 = 3)) ∨ (i = .invokespecial index ∧ (am_in z).2.2.2 = 2))
    (hd : decode (am_by y) pc = .ok (i, 3)) (hl : Cond.methodLink (am_cn (am_in y).1) index (am_nm z) ∈ am_big ∨ (((am_in z).2.2.2 = 1 ∨ (am_in z).2.2.2 = 2) ∧ Cond.methodLinkNest (am_cn (am_in y).1) index (am_nm z) "PoetsBook" ∈ lw_tbl))
    (hcs : am_cs rest ≤ 8) (hrcv : am_rcv z as h = true) (hM : am_Met l D dA B0 ca d z as h r h1) (hR : d + 1 ≤ R.frames ∧ 64 * (d + 1) ≤ R.locals)
    (hm : am_le h0 h) (hm1 : am_le h h1) (hcap : h1.1 - h0.1 ≤ R.cells ∧ h1.2.1 - h0.2.1 ≤ R.slots)
    (k : am_Wp p l e R s m args below meth c Q D dA B0 ca y h0 (pc + 3) ls (r.toList ++ rest) h1) : am_Wp p l e R s m args below meth c Q D dA B0 ca y h0 pc ls st h := by
  intro H locs rls hO hL
  have S : CallFix p m c (am_by y) (am_in y).2.2.1 s args am_big (am_cn (am_in y).1) := ⟨C.1, C.2.1, C.2.2.1, C.2.2.2.1, C.2.2.2.2.1⟩
  have hts := C.2.2.2.2.1
  have hT := C.2.2.2.2.2.1
  have hf : h.1 - h0.1 + (h1.1 - h.1) ≤ R.cells ∧ h.2.1 - h0.2.1 + (h1.2.1 - h.2.1) ≤ R.slots := by
    obtain ⟨q1, q2⟩ := hm
    obtain ⟨q3, q4⟩ := hm1
    obtain ⟨q5, q6⟩ := hcap
    exact ⟨by omega, by omega⟩
  have hstk := am_stk hst (am_ga (am_ad B0 ca))
  obtain ⟨z1, z2, z3, z4, z5, z6, z7, z8, z9, z10, z11, z12⟩ := id hz
  have hnest : (((am_in z).2.2.2 = 1 ∨ (am_in z).2.2.2 = 2) ∧ Cond.methodLinkNest (am_cn (am_in y).1) index (am_nm z) "PoetsBook" ∈ lw_tbl) → va_Nw (.methodLinkNest (am_cn (am_in y).1) index (am_nm z) "PoetsBook") s := fun q => hT.2.2.1 _ q.2 rfl
  rcases hk with ⟨rfl, hk⟩ | ⟨rfl, hk⟩ | ⟨rfl, hk⟩
  · -- static
    have hn : (am_in z).2.1 - (bif Nat.beq (am_in z).2.2.2 1 then 0 else 1) = (am_in z).2.1 := by rw [hk]; rfl
    have hkw : (Cond.static (am_nm z)).before args s = true := by
      have q := hts _ z5
      unfold am_kw at q
      rw [hk] at q
      exact q
    have hlen' : (as.map (am_ga (am_ad B0 ca))).length = (am_in z).2.1 := by rw [List.length_map]; exact hlen
    rcases hl with hl | hl
    · exact am_after (va_runS (rest := rest.map (am_ga (am_ad B0 ca))) S hM ⟨am_callB (h := h) (h1 := h1) hts hz (by omega) (hts _ hl) hn hR, hkw⟩ ⟨am_blind, am_preU C hO rfl⟩ rfl hlen' hL.2.1 hstk (am_roomW hcs) hd hf) hO hm hm1 hL rfl k
    · exact am_after (va_runSN (rest := rest.map (am_ga (am_ad B0 ca))) S hM ⟨am_callN (h := h) (h1 := h1) hts hz (by omega) (hnest hl) hn hR, hkw, trivial⟩ ⟨am_blind, am_preU C hO rfl⟩ rfl hlen' hL.2.1 hstk (am_roomW hcs) hd hf) hO hm hm1 hL rfl k
  · -- virtual
    have hne1 : (am_in z).2.2.2 ≠ 1 := by omega
    have hn : (am_in z).2.1 - (bif Nat.beq (am_in z).2.2.2 1 then 0 else 1) = (am_in z).2.1 - 1 := by rcases hk with q | q <;> (rw [q]; rfl)
    have h1le : 1 ≤ (am_in z).2.1 := z12 hne1
    have hkw : (Cond.instanceMethod (am_nm z)).before args s = true := by
      have q := hts _ z5
      unfold am_kw at q
      rcases hk with q1 | q1 <;> (rw [q1] at q; exact q)
    have hrv : ∃ x as', as = .ref x :: as' ∧ am_isO h x (am_in z).1 = true := by
      unfold am_rcv at hrcv
      rcases hk with q1 | q1 <;> rw [q1] at hrcv <;> (
        cases as with
        | nil => cases hrcv
        | cons v as' => cases v <;> first | (exact ⟨_, _, rfl, hrcv⟩) | (cases hrcv))
    obtain ⟨x, as', rfl, hix⟩ := hrv
    have hsl := z10 (by omega)
    have hcell := am_recvC hT hO hix hsl.2
    rw [← z7] at hcell
    have hlen' : (as'.map (am_ga (am_ad B0 ca))).length = (am_in z).2.1 - 1 := by
      rw [List.length_map]
      have : as'.length + 1 = (am_in z).2.1 := hlen
      omega
    have hstk' : st.map (am_ga (am_ad B0 ca)) = (as'.map (am_ga (am_ad B0 ca))).reverse ++ .ref (am_ad B0 ca x) :: rest.map (am_ga (am_ad B0 ca)) := by
      rw [hstk]
      simp [am_ga]
    have hl' : (Cond.methodLink (am_cn (am_in y).1) index (am_nm z)).before args s = true := by
      rcases hl with hl | hl
      · exact hts _ hl
      · omega
    have hpre : PreV s H (am_nm z).cls (am_ad B0 ca x) (am_Pc D dA B0 ca (.ref x :: as') h) (as'.map (am_ga (am_ad B0 ca))) := ⟨am_blind, hcell, am_preU C hO rfl⟩
    rcases hk with hk | hk
    · exact am_after (va_runV (C := (am_nm z).cls) (rest := rest.map (am_ga (am_ad B0 ca))) S hM ⟨am_callB (h := h) (h1 := h1) hts hz (by omega) hl' hn hR, hkw, hts _ hsl.1⟩ hpre rfl hlen' hL.2.1 hstk' (am_roomW hcs) hd hf) hO hm hm1 hL rfl k
    · have hcw : am_cw z = .codeWith (am_nm z) (am_by z) (am_in z).2.2.1 (am_rt z) (am_hh z) := by
        unfold am_cw
        rw [hk]
        rfl
      have hG := am_good hz
      refine am_after (am_runVW (C := (am_nm z).cls) (bytes := am_by z) (maxL := (am_in z).2.2.1) (ret := am_rt z) (hh := am_hh z) (n := (am_in z).2.1 - 1) (index := index) (rest := rest.map (am_ga (am_ad B0 ca))) S hM rfl rfl hR.1 ?_ (pay_in hts hG) (by rw [am_ws, hcw]; exact List.mem_cons_self) (by rw [← hcw]; exact hts _ z4) (hts _ z6) z2 ?_ hl' hkw (hts _ hsl.1) hpre rfl hlen' hL.2.1 hstk' (am_roomW hcs) hd hf) hO hm hm1 hL rfl k
      · show 8 + ((am_in z).2.2.1 + 11) + 64 * d ≤ R.locals
        have := hR.2
        omega
      · intro sig hsig
        rw [hsig, hn] at z3
        exact (Option.some.inj z3).symm
  · -- special: a constructor
    have hn : (am_in z).2.1 - (bif Nat.beq (am_in z).2.2.2 1 then 0 else 1) = (am_in z).2.1 - 1 := by rw [hk]; rfl
    have h1le : 1 ≤ (am_in z).2.1 := z12 (by omega)
    have hkw : (Cond.instanceMethod (am_nm z)).before args s = true := by
      have q := hts _ z5
      unfold am_kw at q
      rw [hk] at q
      exact q
    have hrv : ∃ x as', as = .ref x :: as' := by
      unfold am_rcv at hrcv
      rw [hk] at hrcv
      cases as with
      | nil => cases hrcv
      | cons v as' => cases v <;> first | (exact ⟨_, _, rfl⟩) | (cases hrcv)
    obtain ⟨x, as', rfl⟩ := hrv
    have hlen' : (as'.map (am_ga (am_ad B0 ca))).length = (am_in z).2.1 - 1 := by
      rw [List.length_map]
      have : as'.length + 1 = (am_in z).2.1 := hlen
      omega
    have hstk' : st.map (am_ga (am_ad B0 ca)) = (as'.map (am_ga (am_ad B0 ca))).reverse ++ .ref (am_ad B0 ca x) :: rest.map (am_ga (am_ad B0 ca)) := by
      rw [hstk]
      simp [am_ga]
    have hrt := (z11 hk).2
    rcases hl with hl | hl
    · have cb := am_callB (h := h) (h1 := h1) hts hz (by omega) (hts _ hl) hn hR
      rw [hrt] at cb
      exact am_after (va_runI (rest := rest.map (am_ga (am_ad B0 ca))) S hM ⟨cb, (z11 hk).1, hkw⟩ ⟨am_blind, am_preU C hO rfl⟩ rfl hlen' hL.2.1 hstk' (am_roomW hcs) hd hf) hO hm hm1 hL rfl k
    · have cb := am_callN (h := h) (h1 := h1) hts hz (by omega) (hnest hl) hn hR
      rw [hrt] at cb
      exact am_after (va_runIN (rest := rest.map (am_ga (am_ad B0 ca))) S hM ⟨cb, (z11 hk).1, hkw⟩ ⟨am_blind, am_preU C hO rfl⟩ rfl hlen' hL.2.1 hstk' (am_roomW hcs) hd hf) hO hm hm1 hL rfl k
end AMC2
