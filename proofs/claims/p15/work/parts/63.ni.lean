/-! METHODS THAT ONLY READ: what they answer doesn't hang on the cells that they don't read, nor on the depth -/
def ni_M (y : Nat) : Bool := Nat.beq y 191 || Nat.beq y 199 || Nat.beq y 200 || Nat.beq y 201 || Nat.beq y 220 || Nat.beq y 221 || Nat.beq y 222 || Nat.beq y 230 || Nat.beq y 231
def ni_X (a : Nat) : Bool := Nat.beq a 98 || Nat.beq a 99 || Nat.beq a 100 || Nat.beq a 119 || Nat.beq a 120 || Nat.beq a 121 || Nat.beq a 126 || Nat.beq a 127 || Nat.beq a 128
def ni_A (a : Nat) : Bool := Nat.ble 40 a && Nat.blt a 130 && Nat.beq (cq_fix a).1 1 && Nat.ble (cq_fix a).2.1 2 && !ni_X a
def ni_g (a : Nat) : Bool := Nat.beq a 78 || ni_A a
def ni_v (v : Value) : Prop := ∀ a, v = .ref a → ni_g a = true
def ni_L (l : List Value) : Prop := ∀ v ∈ l, ni_v v
def ni_it (t : cq_T) : Bool := Nat.beq t.1 1 || Nat.beq t.1 8 || Nat.beq t.1 9 || Nat.beq t.1 10
def ni_f (b : Nat) : Bool := Nat.blt b (am_N 13) && !Nat.beq b 32 && (ni_it (cq_cl 13 b) || (Nat.beq (cq_cl 13 b).1 3 && ni_A (cq_cl 13 b).2.2.2.1))
def ni_i (e : am_E) : Bool := match e.1 with
  | .getfield _ => Nat.beq e.2.2.2.1 13 && ni_f e.2.2.2.2.1
  | .ldc_w _ => Nat.beq e.2.2.2.2.1 0
  | .invokevirtual _ => ni_M e.2.2.2.1
  | .invokestatic _ => ni_M e.2.2.2.1
  | .ireturn => true
  | .aload_n _ => true
  | .iload_n _ => true
  | .iload _ => true
  | .iconst _ => true
  | .bipush _ => true
  | .sipush _ => true
  | .iaload => true
  | .baload => true
  | .if_icmp _ _ => true
  | .ifCond _ _ => true
  | .goto _ => true
  | .istore _ => true
  | .istore_n _ => true
  | .iinc _ _ => true
  | .ishr => true
  | .iand => true
  | .imul => true
  | .iadd => true
  | .isub => true
  | _ => false
def ni_all : Bool := [191, 199, 200, 201, 220, 221, 222, 230, 231].all fun y => (List.range (am_bd y)).all fun pc => match am_code y pc with
  | some e => ni_i e
  | none => true
theorem ni_all_ok : ni_all = true := by decide +kernel
theorem ni_M_mem {y : Nat} (q : ni_M y = true) : y ∈ [191, 199, 200, 201, 220, 221, 222, 230, 231] := by
  unfold ni_M at q
  simp only [Bool.or_eq_true, Nat.beq_eq] at q
  simp only [List.mem_cons, List.not_mem_nil, or_false]
  omega
theorem ni_code {y pc : Nat} {e : am_E} (q : ni_M y = true) (hp : pc < am_bd y) (hc : am_code y pc = some e) : ni_i e = true := by
  have h1 := List.all_eq_true.1 ni_all_ok y (ni_M_mem q)
  have h2 := List.all_eq_true.1 h1 pc (List.mem_range.2 hp)
  rw [hc] at h2
  exact h2
def ni_arT : Bool := (List.range 130).all fun a => !ni_A a || (ni_it (cq_ar a) && ni_it (cq_ty a 1))
theorem ni_arT_ok : ni_arT = true := by decide +kernel
def ni_R (h h2 : am_H) : Prop := h.1 = h2.1 ∧ (∀ c, c < h.1 → h.2.2.1 c = h2.2.2.1 c) ∧ (∀ c, c < h.1 → ni_X c = false → ∀ j, ¬ (c = 78 ∧ j = 32) → h.2.2.2 c j = h2.2.2.2 c j)
theorem ni_v_int {x : Int32} : ni_v (.int x) := fun a q => by cases q
theorem ni_v_ph : ni_v am_ph := fun a q => by cases q
theorem ni_L.tail {v : Value} {l : List Value} (q : ni_L (v :: l)) : ni_L l := fun w hw => q w (List.mem_cons_of_mem _ hw)
theorem ni_L.int {x : Int32} {l : List Value} (q : ni_L l) : ni_L (.int x :: l) := fun w hw => by
  rcases List.mem_cons.1 hw with z | z
  · rw [z]; exact ni_v_int
  · exact q w z
theorem ni_L.cons {v : Value} {l : List Value} (hv : ni_v v) (q : ni_L l) : ni_L (v :: l) := fun w hw => by
  rcases List.mem_cons.1 hw with z | z
  · rw [z]; exact hv
  · exact q w z
theorem ni_L.set {l : List Value} {i : Nat} {v : Value} (q : ni_L l) (hv : ni_v v) : ni_L (l.set i v) := fun w hw => by
  rcases List.mem_or_eq_of_mem_set hw with z | z
  · exact q w z
  · rw [z]; exact hv
theorem ni_L.kill {l : List Value} {i : Nat} (q : ni_L l) : ni_L (am_kill l i) := by
  unfold am_kill
  split
  · exact q
  · split
    · rw [cond_eq_ite]
      split
      · exact q.set ni_v_ph
      · exact q
    · exact q
theorem ni_L.set1 {l : List Value} {i : Nat} {v : Value} (q : ni_L l) (hv : ni_v v) : ni_L (am_set1 l i v) := q.kill.set hv
theorem ni_ty_int {h : am_H} {j : Nat} {t : cq_T} {v : Value} (q : ni_it t = true) (k : cq_ht h j t v) : ∃ x : Int32, v = .int x := by
  obtain ⟨a, b, c, d, e, f⟩ := t
  unfold ni_it at q
  simp only [Bool.or_eq_true, Nat.beq_eq] at q
  rcases q with ((q | q) | q) | q
  · subst q
    obtain ⟨x, ex, -⟩ := k
    exact ⟨x, ex⟩
  · subst q
    obtain ⟨x, ex, -⟩ := k
    exact ⟨x, ex⟩
  · subst q
    obtain ⟨x, ex, -⟩ := k
    exact ⟨x, ex⟩
  · subst q
    obtain ⟨x, ex, -⟩ := k
    exact ⟨x, ex⟩
theorem ni_A_un {a : Nat} (q : ni_A a = true) : 40 ≤ a ∧ a < 130 ∧ (cq_fix a).1 = 1 ∧ ni_X a = false := by
  have q1 := (Bool.and_eq_true _ _ ▸ q)
  have q2 := (Bool.and_eq_true _ _ ▸ q1.1)
  have q3 := (Bool.and_eq_true _ _ ▸ q2.1)
  have q4 := (Bool.and_eq_true _ _ ▸ q3.1)
  exact ⟨Nat.le_of_ble_eq_true q4.1, Nat.le_of_ble_eq_true q4.2, am_beq q3.2, cq_nb q1.2⟩
theorem ni_fld {h : am_H} {a b : Nat} (I : cq_Inv none h) (hg : ni_g a = true) (ho : am_isO h a 13 = true) (hf : ni_f b = true) : (a = 78 ∧ b ≠ 32) ∧ ni_v (h.2.2.2 a b) := by
  have e78 : a = 78 := by
    rcases Bool.or_eq_true _ _ ▸ hg with z | z
    · exact am_beq z
    · exfalso
      obtain ⟨a1, a2, a3, -⟩ := ni_A_un z
      have o1 := (Bool.and_eq_true _ _ ▸ ho)
      have o2 := (Bool.and_eq_true _ _ ▸ o1.1)
      have := am_beq o2.2
      rw [I.fx a a1 a2, a3] at this
      omega
  have f0 := (Bool.and_eq_true _ _ ▸ hf)
  have f00 := (Bool.and_eq_true _ _ ▸ f0.1)
  refine ⟨⟨e78, fun z => ?_⟩, ?_⟩
  · have := cq_nb f00.2
    rw [z] at this
    cases this
  subst e78
  have f1 := (Bool.and_eq_true _ _ ▸ hf)
  have fx := I.fx 78 (by decide) (by decide)
  have hlt : b < (h.2.2.1 78).2.2 := by
    rw [fx]
    exact Nat.le_of_ble_eq_true (Bool.and_eq_true _ _ ▸ f1.1).1
  have t := I.ty 78 (by decide) (by have := I.lo; omega) (fun z => by cases z) b hlt
  have et : cq_tyOf 78 (h.2.2.1 78) b = cq_cl 13 b := by
    unfold cq_tyOf cq_ty cq_isA cq_ob
    have e1 : Nat.blt 78 130 = true := by decide
    have e2 : Nat.beq (cq_fix 78).1 1 = false := by decide +kernel
    have e3 : (Nat.beq 78 54 && Nat.blt b 3) = false := by rw [show Nat.beq 78 54 = false by decide]; rfl
    have e4 : (cq_fix 78).2.1 = 13 := by decide +kernel
    rw [e1, e2, e3, e4]
    rfl
  rw [et] at t
  rcases Bool.or_eq_true _ _ ▸ f1.2 with z | z
  · obtain ⟨x, ex⟩ := ni_ty_int z t
    rw [ex]
    exact ni_v_int
  · have z := (Bool.and_eq_true _ _ ▸ z)
    have z1 := am_beq z.1
    generalize cq_cl 13 b = tt at t z1 z
    obtain ⟨t1, t2, t3, t4, t5, t6⟩ := tt
    dsimp only at z1
    subst z1
    have t : h.2.2.2 78 b = .ref t4 := t
    rw [t]
    intro a' e'
    cases e'
    show (_ || ni_A t4) = true
    rw [z.2, Bool.or_true]
theorem ni_rd {h : am_H} {a : Nat} {i : Int32} {ok : Nat → Bool} {v : Value} (I : cq_Inv none h) (hg : ni_g a = true) (q : am_rd h a i ok = some v) : ni_A a = true ∧ ∃ x : Int32, v = .int x := by
  unfold am_rd at q
  rw [cond_eq_ite] at q
  split at q
  · rename_i hb
    split at q
    · cases q
    · rename_i hi
      have b1 := (Bool.and_eq_true _ _ ▸ hb)
      have b2 := (Bool.and_eq_true _ _ ▸ b1.1)
      have hA : ni_A a = true := by
        rcases Bool.or_eq_true _ _ ▸ hg with z | z
        · exfalso
          have e78 := am_beq z
          subst e78
          have fx := I.fx 78 (by decide) (by decide)
          have := b2.2
          rw [fx] at this
          revert this
          decide +kernel
        · exact z
      obtain ⟨a1, a2, a3, -⟩ := ni_A_un hA
      refine ⟨hA, ?_⟩
      rw [← Option.some.inj q]
      have t := I.ty a a1 (Nat.le_of_ble_eq_true b2.1) (fun z => by cases z) i.toNatClampNeg (by omega)
      have al := List.all_eq_true.1 ni_arT_ok a (List.mem_range.2 a2)
      rw [hA] at al
      have al := (Bool.and_eq_true _ _ ▸ (show (ni_it (cq_ar a) && ni_it (cq_ty a 1)) = true from al))
      refine ni_ty_int (t := cq_tyOf a (h.2.2.1 a) i.toNatClampNeg) ?_ t
      unfold cq_tyOf
      rw [show Nat.blt a 130 = true from Nat.ble_eq_true_of_le a2]
      simp only [cond_true]
      by_cases e1 : i.toNatClampNeg = 1
      · rw [e1]
        exact al.2
      · unfold cq_ty cq_isA
        rw [a3]
        have : Nat.beq i.toNatClampNeg 1 = false := by
          cases hh : Nat.beq i.toNatClampNeg 1 with
          | false => rfl
          | true => exact absurd (am_beq hh) e1
        rw [this, Bool.and_false]
        exact al.1
  · cases q
theorem ni_rd2 {h h2 : am_H} {a : Nat} {i : Int32} {ok : Nat → Bool} (I : cq_Inv none h) (R : ni_R h h2) (hA : ni_A a = true) : am_rd h2 a i ok = am_rd h a i ok := by
  obtain ⟨a1, a2, a3, a4⟩ := ni_A_un hA
  have hl : a < h.1 := Nat.lt_of_lt_of_le a2 I.lo
  unfold am_rd
  have ne : a ≠ 78 := fun z => by
    rw [z] at a3
    revert a3
    decide +kernel
  rw [← R.1, ← R.2.1 a hl, R.2.2 a hl a4 _ (fun z => ne z.1)]
theorem ni_isO {h h2 : am_H} (R : ni_R h h2) (a ci : Nat) : am_isO h2 a ci = am_isO h a ci := by
  unfold am_isO
  rw [← R.1]
  cases hb : Nat.blt a h.1 with
  | false => rfl
  | true => rw [← R.2.1 a (Nat.le_of_ble_eq_true hb)]
