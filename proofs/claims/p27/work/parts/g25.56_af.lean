/-! THE CHECKER, 26: after a call -/
def cq_tk (mc : cq_W) (S : cq_S) (q : cq_C × cq_F × cq_A) : Bool := bif q.1.1 then (match cq_sk S q.1.2 with
    | some k => Nat.ble k.1 1 && !mc.any (fun w => w.1 && Nat.beq w.2.1 k.1 && Nat.beq w.2.2.1 k.2.1 && (Nat.beq w.2.2.2 0 || !cq_k q.2.1 || Nat.beq w.2.2.2 (q.2.1.1.toNat + 1)))
    | none => false)
  else Nat.blt q.1.2 130 && !mc.any (fun w => !w.1 && Nat.beq w.2.1 q.1.2 && (Nat.beq w.2.2.1 0 || !cq_k q.2.1 || Nat.beq w.2.2.1 (q.2.1.1.toNat + 1)))
def cq_weq (a b : Bool × Nat × Nat × Nat) : Bool := (a.1 == b.1) && Nat.beq a.2.1 b.2.1 && Nat.beq a.2.2.1 b.2.2.1 && Nat.beq a.2.2.2 b.2.2.2
def cq_sub1 (mc m : cq_W) : Bool := mc.all fun w => m.any (cq_weq w)
section CWA
variable {m mc : cq_W} {h0 h h' : am_H} {ρ : Nat → Int} {S : cq_S}
theorem cq_weq_ok {a b : Bool × Nat × Nat × Nat} (q : cq_weq a b = true) : a = b := by
  have q1 := (Bool.and_eq_true _ _ ▸ q)
  have q2 := (Bool.and_eq_true _ _ ▸ q1.1)
  have q3 := (Bool.and_eq_true _ _ ▸ q2.1)
  obtain ⟨a1, a2, a3, a4⟩ := a
  obtain ⟨b1, b2, b3, b4⟩ := b
  have e1 : a1 = b1 := eq_of_beq q3.1
  have e2 := am_beq q3.2
  have e3 := am_beq q2.2
  have e4 := am_beq q1.2
  dsimp only at e2 e3 e4
  rw [e1, e2, e3, e4]
theorem cq_sub1_ok (q : cq_sub1 mc m = true) : ∀ w ∈ mc, w ∈ m := fun w hw => by
  obtain ⟨b, hb, e⟩ := List.any_eq_true.1 (List.all_eq_true.1 q w hw)
  rw [cq_weq_ok e]
  exact hb
theorem cq_Fr_tr (F : cq_Fr m h0 h) (G : cq_Fr mc h h') (hs : ∀ w ∈ mc, w ∈ m) : cq_Fr m h0 h' := by
  refine ⟨Nat.le_trans F.nx G.nx, fun c hc => ?_, fun c hc j hj => ?_⟩
  · rw [G.sh c (Nat.lt_of_lt_of_le hc F.nx)]
    exact F.sh c hc
  · rw [G.vl c (Nat.lt_of_lt_of_le hc F.nx) j ?_]
    · exact F.vl c hc j hj
    · cases hh : cq_inW mc c (h.2.2.1 c) j with
      | false => rfl
      | true =>
        obtain ⟨w, hw, q⟩ := List.any_eq_true.1 hh
        rw [F.sh c hc] at q
        have : cq_inW m c (h0.2.2.1 c) j = true := List.any_eq_true.2 ⟨w, hs w hw, q⟩
        rw [this] at hj
        cases hj
theorem cq_kOk_tr (G : cq_Fr mc h h') {a : Nat} {k : cq_Kd} (q : cq_kOk h a k) : cq_kOk h' a k := by
  have nx := G.nx
  obtain ⟨t, x, y⟩ := k
  rcases t with _ | _ | t
  · obtain ⟨q1, q2, q3⟩ := q
    refine ⟨q1, Nat.lt_of_lt_of_le q2 nx, ?_⟩
    rw [G.sh a q2]
    exact q3
  · obtain ⟨q1, q2, q3⟩ := q
    refine ⟨q1, Nat.lt_of_lt_of_le q2 nx, ?_⟩
    rw [G.sh a q2]
    exact q3
  · exact q
theorem cq_len_tr (G : cq_Fr mc h h') {a : Nat} (ha : a < h.1) : cq_len h' a = cq_len h a := by
  unfold cq_len
  rw [G.sh a ha]
theorem cq_tk_ok {q : cq_C × cq_F × cq_A} (D : cq_Md m h0 ρ S h) (G : cq_Fr mc h h') (wm : mc.all (fun w => w.1 || Nat.blt w.2.1 130) = true) (hq : cq_tk mc S q = true) : h'.2.2.2 (cq_ce ρ q.1) (cq_e ρ q.2.1).toNat = h.2.2.2 (cq_ce ρ q.1) (cq_e ρ q.2.1).toNat := by
  have ej : cq_k q.2.1 = true → q.2.1.1.toNat = (cq_e ρ q.2.1).toNat := fun z => by rw [cq_k_e z]
  have sl : ∀ n : Nat, (Nat.beq n 0 || !cq_k q.2.1 || Nat.beq n (q.2.1.1.toNat + 1)) = false → (Nat.beq n 0 || Nat.beq n ((cq_e ρ q.2.1).toNat + 1)) = false := fun n z => by
    cases h1 : Nat.beq n 0 with
    | true => rw [h1] at z; cases z
    | false =>
      rw [h1] at z
      cases h2 : cq_k q.2.1 with
      | false => rw [h2] at z; cases z
      | true =>
        rw [h2, ej h2] at z
        exact z
  unfold cq_tk at hq
  cases c1 : q.1.1 with
  | true =>
    rw [c1] at hq
    simp only [cond_true] at hq
    split at hq
    · rename_i k hk
      obtain ⟨p1, p2, -⟩ := cq_sk_ok D hk
      have hq := (Bool.and_eq_true _ _ ▸ hq)
      have ec : cq_ce ρ q.1 = (ρ q.1.2).toNat := by unfold cq_ce; rw [c1]; rfl
      rw [ec]
      have h130 := cq_k130 p2 hq.1
      refine G.vl _ (cq_kOk_lt D p2) _ ?_
      cases hh : cq_inW mc (ρ q.1.2).toNat (h.2.2.1 (ρ q.1.2).toNat) (cq_e ρ q.2.1).toNat with
      | false => rfl
      | true =>
        exfalso
        obtain ⟨w, hw, z⟩ := List.any_eq_true.1 hh
        have nn := cq_nb hq.2
        have nw : (w.1 && Nat.beq w.2.1 k.1 && Nat.beq w.2.2.1 k.2.1 && (Nat.beq w.2.2.2 0 || !cq_k q.2.1 || Nat.beq w.2.2.2 (q.2.1.1.toNat + 1))) = false := Bool.eq_false_iff.2 (List.any_eq_false.1 nn w hw)
        have sh : (h.2.2.1 (ρ q.1.2).toNat).1 = k.1 ∧ (h.2.2.1 (ρ q.1.2).toNat).2.1 = k.2.1 := by
          obtain ⟨t, x, y⟩ := k
          rcases t with _ | _ | t
          · rw [p2.2.2]; exact ⟨rfl, rfl⟩
          · exact ⟨p2.2.2.1, p2.2.2.2.1⟩
          · cases hq.1
        cases w1 : w.1 with
        | true =>
          rw [w1] at z nw
          simp only [cond_true] at z
          have z1 := (Bool.and_eq_true _ _ ▸ z)
          have z2 := (Bool.and_eq_true _ _ ▸ z1.1)
          have z3 := (Bool.and_eq_true _ _ ▸ z2.1)
          rw [sh.1] at z3
          rw [sh.2] at z2
          rw [z3.2, z2.2] at nw
          have := sl w.2.2.2 nw
          rw [this] at z1
          cases z1.2
        | false =>
          rw [w1] at z
          simp only [cond_false] at z
          have z1 := (Bool.and_eq_true _ _ ▸ z)
          have wl := List.all_eq_true.1 wm w hw
          rw [w1] at wl
          have wl : w.2.1 < 130 := Nat.le_of_ble_eq_true wl
          have := am_beq z1.1
          omega
    · cases hq
  | false =>
    rw [c1] at hq
    simp only [cond_false] at hq
    have hq := (Bool.and_eq_true _ _ ▸ hq)
    have ec : cq_ce ρ q.1 = q.1.2 := by unfold cq_ce; rw [c1]; rfl
    rw [ec]
    have l130 : q.1.2 < 130 := Nat.le_of_ble_eq_true hq.1
    refine G.vl _ (Nat.lt_of_lt_of_le l130 D.I.lo) _ ?_
    cases hh : cq_inW mc q.1.2 (h.2.2.1 q.1.2) (cq_e ρ q.2.1).toNat with
    | false => rfl
    | true =>
      exfalso
      obtain ⟨w, hw, z⟩ := List.any_eq_true.1 hh
      have nn := cq_nb hq.2
      have nw : (!w.1 && Nat.beq w.2.1 q.1.2 && (Nat.beq w.2.2.1 0 || !cq_k q.2.1 || Nat.beq w.2.2.1 (q.2.1.1.toNat + 1))) = false := Bool.eq_false_iff.2 (List.any_eq_false.1 nn w hw)
      cases w1 : w.1 with
      | true =>
        rw [w1] at z
        simp only [cond_true] at z
        have z1 := (Bool.and_eq_true _ _ ▸ z)
        have z2 := (Bool.and_eq_true _ _ ▸ z1.1)
        have z3 := (Bool.and_eq_true _ _ ▸ z2.1)
        have := Nat.le_of_ble_eq_true z3.1
        omega
      | false =>
        rw [w1] at z nw
        simp only [cond_false] at z
        have z1 := (Bool.and_eq_true _ _ ▸ z)
        rw [z1.1] at nw
        have := sl w.2.2.1 nw
        rw [this] at z1
        cases z1.2
end CWA
/-- the caller's store behind a call: what an exit says, with new symbols -/
def cq_shB (n0 b : Nat) (B : cq_B) : cq_B := (B.filter fun q => Nat.ble n0 q.1).map fun q => (b + (q.1 - n0), q.2)
def cq_shK {α : Type} (n0 b : Nat) (B : List (Nat × α)) : List (Nat × α) := (B.filter fun q => Nat.ble n0 q.1).map fun q => (b + (q.1 - n0), q.2)
def cq_shT (σ : List (Nat × cq_A)) (n0 b : Nat) : List (cq_C × cq_F × cq_A) → Option (List (cq_C × cq_F × cq_A))
  | [] => some []
  | q :: r => bif !q.1.1 && cq_k q.2.1 then (match cq_sa σ n0 b q.2.2, cq_shT σ n0 b r with
    | some a, some t => some ((q.1, q.2.1, a) :: t)
    | _, _ => none) else none
def cq_shG (σ : List (Nat × cq_A)) (n0 b : Nat) : List cq_F → cq_P → Option (Option cq_P)
  | [], P => some (some P)
  | g :: r, P => (match cq_sf σ n0 b g with
    | some f => (match cq_asm P f with
      | some P' => cq_shG σ n0 b r P'
      | none => some none)
    | none => none)
section CWB
variable {ρ : Nat → Int} {σ : List (Nat × cq_A)} {n0 b : Nat}
theorem cq_shG_ok : ∀ {l : List cq_F} {P : cq_P} {o : Option cq_P}, cq_shG σ n0 b l P = some o → cq_pOk ρ P → (∀ g ∈ l, 0 ≤ cq_e (cq_rc1 σ n0 b ρ) g) → ∃ P', o = some P' ∧ cq_pOk ρ P'
  | [], P, o, q, hP, _ => ⟨P, (Option.some.inj q).symm, hP⟩
  | g :: r, P, o, q, hP, hg => by
    unfold cq_shG at q
    split at q
    · rename_i f hf
      have h0 : 0 ≤ cq_e ρ f := by
        rw [cq_sf_ok hf]
        exact hg g List.mem_cons_self
      obtain ⟨P1, e1, k1⟩ := cq_asm_ok hP h0
      rw [e1] at q
      exact cq_shG_ok q k1 fun x hx => hg x (List.mem_cons_of_mem _ hx)
    · cases q
theorem cq_shT_ok {h : am_H} : ∀ {l t : List (cq_C × cq_F × cq_A)}, cq_shT σ n0 b l = some t → (∀ e ∈ l, cq_g (cq_rc1 σ n0 b ρ) e.2.2 (h.2.2.2 (cq_ce (cq_rc1 σ n0 b ρ) e.1) (cq_e (cq_rc1 σ n0 b ρ) e.2.1).toNat)) → ∀ e ∈ t, cq_g ρ e.2.2 (h.2.2.2 (cq_ce ρ e.1) (cq_e ρ e.2.1).toNat)
  | [], t, q, _, e, he => by
    rw [← Option.some.inj q] at he
    cases he
  | x :: r, t, q, H, e, he => by
    unfold cq_shT at q
    rw [cond_eq_ite] at q
    split at q
    · rename_i hb
      have hb := (Bool.and_eq_true _ _ ▸ hb)
      split at q
      · rename_i a t' ha ht
        rw [← Option.some.inj q] at he
        rcases List.mem_cons.1 he with z | z
        · subst z
          have g := H x List.mem_cons_self
          have c1 := cq_nb hb.1
          have ec : ∀ r : Nat → Int, cq_ce r x.1 = x.1.2 := fun r => by unfold cq_ce; rw [c1]; rfl
          rw [ec, cq_k_e hb.2] at g
          dsimp only
          rw [ec, cq_k_e hb.2]
          exact (cq_sa_ok ha).1 g
        · exact cq_shT_ok ht (fun y hy => H y (List.mem_cons_of_mem _ hy)) e z
      · cases q
    · cases q
end CWB
