section
/-! WHAT IS HIDDEN: rows that a run can't reach, objects that it doesn't write, but by some calls -/
abbrev zdP : Type := (Nat → Bool) × (Nat → Bool) × (Nat → Bool) × (Nat → Nat → Bool) × (Nat → Bool) × (Nat → Nat)
def zdP.S (P : zdP) : Nat → Bool := P.1
def zdP.Z (P : zdP) : Nat → Bool := P.2.1
def zdP.R (P : zdP) : Nat → Bool := P.2.2.1
def zdP.K (P : zdP) : Nat → Nat → Bool := P.2.2.2.1
def zdP.W (P : zdP) : Nat → Bool := P.2.2.2.2.1
def zdP.D (P : zdP) : Nat → Nat := P.2.2.2.2.2
def zd_C (P : zdP) (y z : Nat) : Bool := Nat.beq z 1000 || Nat.beq z 1001 || Nat.beq z 1002 || Nat.beq z 1003 || Nat.beq z 1004 || Nat.beq z 10 || Nat.beq z 57 || P.R z || (P.S z && (Nat.blt (P.D z) (P.D y) || Nat.beq (P.D z) 0)) || (P.Z z && (Nat.blt (P.D z) (P.D y) || Nat.beq (P.D z) 0))
/-- a field that holds no row or object for good -/
def zd_fl (k b : Nat) : Bool := (List.range 130).all fun c => !(Nat.ble 40 c && Nat.beq (cq_fix c).1 0 && Nat.beq (cq_fix c).2.1 k) || !Nat.beq (cq_ty c b).1 3
theorem zd_fl_ok {k b c w : Nat} (q : zd_fl k b = true) (h1 : 40 ≤ c) (h2 : c < 130) (h3 : (cq_fix c).1 = 0) (h4 : (cq_fix c).2.1 = k) : cq_ty c b ≠ (3, 0, 0, w, 0, 0) := fun e => by
  have z := List.all_eq_true.1 q c (List.mem_range.2 h2)
  have bk : Nat.beq k k = true := Nat.beq_refl k
  rw [h3, h4, e, show Nat.ble 40 c = true from Nat.ble_eq_true_of_le h1, bk] at z
  cases z
theorem zd_ar {c j w : Nat} (h1 : 40 ≤ c) (h2 : c < 130) (h3 : (cq_fix c).1 = 1) : cq_ty c j ≠ (3, 0, 0, w, 0, 0) := fun e => by
  have q : ((List.range 130).all fun c => !(Nat.ble 40 c && Nat.beq (cq_fix c).1 1) || (cq_isA c && !Nat.beq (cq_ar c).1 3)) = true := by decide +kernel
  have z := List.all_eq_true.1 q c (List.mem_range.2 h2)
  rw [h3, show Nat.ble 40 c = true from Nat.ble_eq_true_of_le h1] at z
  have z : (cq_isA c && !Nat.beq (cq_ar c).1 3) = true := z
  have z := (Bool.and_eq_true _ _ ▸ z)
  have e1 := congrArg Prod.fst e
  unfold cq_ty at e1
  rw [z.1] at e1
  cases y : (Nat.beq c 81 || Nat.beq c 83) && Nat.beq j 1 with
  | true =>
    rw [y] at e1
    have e1 : (1 : Nat) = 3 := e1
    omega
  | false =>
    rw [y] at e1
    have e1 : (cq_ar c).1 = 3 := e1
    have z2 := z.2
    rw [e1] at z2
    cases z2
theorem zd_fS {h : am_H} {c : Nat} {dv : Nat → Value} (S : fS h) (hs : (h.2.2.1 c).1 ≠ 2) (ht : 40 ≤ c → c < 130 → ∀ j w, cq_ty c j = (3, 0, 0, w, 0, 0) → dv j = h.2.2.2 c j) : fS (h.1, h.2.1, h.2.2.1, am_row h.2.2.2 c dv) := by
  refine ⟨S.1, S.2.1, fun c' a1 a2 => ⟨(S.2.2.1 c' a1 a2).1, fun j' hj => ?_⟩, fun c' j' k a1 a2 a3 e => ?_⟩
  · have q := S.2.2.1 c' a1 a2
    have n : c' ≠ c := fun z => hs (by rw [← z, q.1])
    exact (if_neg n).trans (q.2 j' hj)
  · have q := S.2.2.2 c' j' k a1 a2 a3 e
    show (if c' = c then dv j' else h.2.2.2 c' j') = _
    split
    · rename_i z
      subst z
      exact (ht a1 a2 j' k e).trans q
    · exact q
theorem zd_fSp {h : am_H} {c j : Nat} {v : Value} (S : fS h) (hs : (h.2.2.1 c).1 ≠ 2) (ht : 40 ≤ c → c < 130 → ∀ w, cq_ty c j ≠ (3, 0, 0, w, 0, 0)) : fS (am_put h c j v) := by
  refine ⟨S.1, S.2.1, fun c' a1 a2 => ⟨(S.2.2.1 c' a1 a2).1, fun j' hj => ?_⟩, fun c' j' k a1 a2 a3 e => ?_⟩
  · have q := S.2.2.1 c' a1 a2
    have n : c' ≠ c := fun z => hs (by rw [← z, q.1])
    exact ax_put_o (Or.inl n) (q.2 j' hj)
  · refine ax_put_o ?_ (S.2.2.2 c' j' k a1 a2 a3 e)
    by_cases z : c' = c
    · by_cases z2 : j' = j
      · subst z z2
        exact absurd e (ht a1 a2 k)
      · exact Or.inr z2
    · exact Or.inl z
/-- kinds: an object has its class's places; what calls make is of few kinds -/
def zd_ko (k : Nat) : Bool := Nat.beq k 1 || Nat.beq k 3 || Nat.beq k 4 || Nat.beq k 6
def zd_kr (k : Nat) : Bool := Nat.beq k 0 || Nat.beq k 3 || Nat.beq k 7
def zd_kd (c : Nat) (sh : am_Sh) : Bool := bif Nat.beq sh.1 0 then Nat.beq sh.2.2 (am_N sh.2.1) && (Nat.blt c 130 || zd_ko sh.2.1) else Nat.blt c 130 || zd_kr sh.2.1
def zd_E (P : zdP) (y : Nat) (e : am_E) : Bool := match e.1 with
  | .putfield _ => !P.W e.2.2.2.1 && zd_fl e.2.2.2.1 e.2.2.2.2.1
  | .getfield _ => !P.K e.2.2.2.1 e.2.2.2.2.1 && Nat.blt e.2.2.2.2.1 (am_N e.2.2.2.1)
  | .newarray _ => zd_kr e.2.2.2.1
  | .anewarray _ => zd_kr e.2.2.2.1
  | .getstatic _ => Nat.blt e.2.2.2.1 40
  | .new _ => !Nat.beq e.2.2.2.1 0 && !Nat.beq e.2.2.2.1 3 && !Nat.beq e.2.2.2.1 8 && zd_ko e.2.2.2.1
  | .ldc i => (match am_sR (am_in y).1 i with
    | some k => Nat.blt k 33
    | none => true)
  | .ldc_w i => (match am_sR (am_in y).1 i with
    | some k => Nat.blt k 33
    | none => true)
  | .invokestatic _ => zd_C P y e.2.2.2.1
  | .invokevirtual _ => zd_C P y e.2.2.2.1
  | .invokespecial _ => zd_C P y e.2.2.2.1
  | _ => true
/-- instructions that only read, in methods that answer numbers -/
def zd_R (e : am_E) : Bool := match e.1 with
  | .iconst _ | .bipush _ | .sipush _ | .lconst _ | .iload _ | .iload_n _ | .aload _ | .aload_n _ | .istore _ | .istore_n _ | .iadd | .isub | .i2l | .goto _ | .ifCond .. | .if_icmp .. | .getfield _ | .iaload | .laload | .arraylength | .ireturn | .lreturn => true
  | _ => false
theorem zd_rst {e : am_E} {pc pc' : Nat} {ls st ls' st' : List Value} {h h' : am_H} (k : zd_R e = true) (q : am_st e pc ls st h = some (pc', ls', st', h')) : h' = h := by
  obtain ⟨i, ln, t, a, b, w⟩ := e
  cases i <;> first
    | (exact absurd k (by decide))
    | (cases k; done)
    | (simp only [am_st] at q
       repeat' split at q
       all_goals first
         | (cases q; done)
         | (cases q; rfl)
         | (simp only [cond_eq_ite] at q
            repeat' split at q
            all_goals first
              | (cases q; done)
              | (cases q; rfl)))
theorem zd_ro {y : Nat} (hy : ∀ pc e, pc < am_bd y → am_code y pc = some e → zd_R e = true) : ∀ (n d pc : Nat) (ls st : List Value) (h : am_H) (x : Option Value × am_H), am_run n d y pc ls st h = some x → x.2 = h ∧ ∃ v, x.1 = some v ∧ (∀ a, v ≠ .ref a) ∧ am_isT (some v) = none
  | 0, d, pc, ls, st, h, x, q => by cases q
  | n + 1, d, pc, ls, st, h, x, q => by
    rw [am_run_s] at q
    unfold am_one at q
    split at q
    · cases q
    · rename_i e he
      rw [cond_eq_ite] at he
      split at he
      · rename_i hp
        have hp := (Bool.and_eq_true _ _ ▸ hp)
        have k := hy pc e (Nat.le_of_ble_eq_true hp.2) he
        split at q
        · rename_i ei
          split at q
          · rw [cond_eq_ite] at q
            split at q
            · cases q
              exact ⟨rfl, _, rfl, fun a z => (by cases z), rfl⟩
            · cases q
          · cases q
        · split at q
          · cases q
            exact ⟨rfl, _, rfl, fun a z => (by cases z), rfl⟩
          · cases q
        · rename_i ei
          unfold zd_R at k
          rw [ei] at k
          cases k
        · rename_i ei
          unfold zd_R at k
          rw [ei] at k
          cases k
        · rename_i ei
          unfold zd_R at k
          rw [ei] at k
          cases k
        · rename_i ei
          unfold zd_R at k
          rw [ei] at k
          cases k
        · rename_i ei
          unfold zd_R at k
          rw [ei] at k
          cases k
        · rename_i ei
          unfold zd_R at k
          rw [ei] at k
          cases k
        · split at q
          · rename_i pc' ls' st' h' hs
            have e2 := zd_rst k hs
            subst e2
            exact zd_ro hy n d _ _ _ _ x q
          · unfold am_lds at q
            split at q
            · rename_i idx ei
              unfold zd_R at k
              rw [ei] at k
              cases k
            · rename_i idx ei
              unfold zd_R at k
              rw [ei] at k
              cases k
            · cases q
      · cases he
section HDD
variable {P : zdP} {U : Nat → Prop} {V : Nat → Nat → Prop} {h h' : am_H} {ls st : List Value} {v w : Value}
def nh (U : Nat → Prop) (v : Value) : Prop := ∀ a, v = .ref a → ¬ U a
def nhL (U : Nat → Prop) (l : List Value) : Prop := ∀ v ∈ l, nh U v
theorem nh_i {x : Int32} : nh U (.int x) := fun a z => (by cases z)
theorem nh_l {x : Int64} : nh U (.long x) := fun a z => (by cases z)
theorem nh_n : nh U .null := fun a z => (by cases z)
theorem nh_r {x : Nat} : nh U (.retAddr x) := fun a z => (by cases z)
theorem nhL_0 : nhL U [] := fun v m => (by cases m)
theorem nhL_c (a : nh U v) (b : nhL U ls) : nhL U (v :: ls) := fun w m => by
  rcases List.mem_cons.1 m with rfl | m
  · exact a
  · exact b w m
theorem nhL_h (a : nhL U (v :: ls)) : nh U v := a v (List.mem_cons_self ..)
theorem nhL_t (a : nhL U (v :: ls)) : nhL U ls := fun w m => a w (List.mem_cons_of_mem _ m)
theorem nhL_set {i : Nat} (a : nhL U ls) (b : nh U v) : nhL U (ls.set i v) := fun w m => by
  rcases List.mem_or_eq_of_mem_set m with m | rfl
  · exact a w m
  · exact b
theorem nhL_kill {i : Nat} (a : nhL U ls) : nhL U (am_kill ls i) := by
  unfold am_kill
  split
  · exact a
  · split
    · rw [cond_eq_ite]
      split
      · exact nhL_set a nh_r
      · exact a
    · exact a
theorem nhL_s1 {i : Nat} (a : nhL U ls) (b : nh U v) : nhL U (am_set1 ls i v) := nhL_set (nhL_kill a) b
theorem nhL_s2 {i : Nat} (a : nhL U ls) (b : nh U v) : nhL U (am_set2 ls i v) := nhL_set (nhL_set (nhL_kill a) b) nh_r
theorem nhL_get {i : Nat} (a : nhL U ls) (e : ls[i]? = some v) : nh U v := a v (List.mem_of_getElem? e)
/-- the heap: hidden rows, and where they may be told -/
def zd_J (P : zdP) (U : Nat → Prop) (V : Nat → Nat → Prop) (h : am_H) : Prop := (∀ a, U a → 40 ≤ a ∧ a < h.1 ∧ ((h.2.2.1 a).1 = 1 ∨ (h.2.2.1 a).1 = 0 ∧ P.W (h.2.2.1 a).2.1 = true)) ∧ (∀ c, c < h.1 → (h.2.2.1 c).1 = 0 → ((h.2.2.1 c).2.1 = 0 ∨ (h.2.2.1 c).2.1 = 3 ∨ (h.2.2.1 c).2.1 = 8) → V c (h.2.2.1 c).2.1) ∧ (∀ c j a, c < h.1 → (40 ≤ c → j < (h.2.2.1 c).2.2) → h.2.2.2 c j = .ref a → U a → (h.2.2.1 c).1 = 0 ∧ P.K (h.2.2.1 c).2.1 j = true) ∧ ∀ c, 40 ≤ c → c < h.1 → zd_kd c (h.2.2.1 c) = true
/-- hidden rows and guarded objects are as they were -/
def zd_A (P : zdP) (U : Nat → Prop) (h h' : am_H) : Prop := h.1 ≤ h'.1 ∧ (∀ c, c < h.1 → h'.2.2.1 c = h.2.2.1 c) ∧ (∀ c j, c < h.1 → (U c ∨ ((h.2.2.1 c).1 = 0 ∧ P.W (h.2.2.1 c).2.1 = true)) → h'.2.2.2 c j = h.2.2.2 c j) ∧ (fS h → fS h')
theorem zd_A.rf : zd_A P U h h := ⟨Nat.le_refl _, fun _ _ => rfl, fun _ _ _ _ => rfl, fun s => s⟩
theorem zd_put {c j : Nat} (J : zd_J P U V h) (hc : c < h.1) (nc : ¬ U c) (ow : (h.2.2.1 c).1 = 0 → P.W (h.2.2.1 c).2.1 = false) (nv : nh U v) (sf : fS h → fS (am_put h c j v)) : zd_J P U V (am_put h c j v) ∧ zd_A P U h (am_put h c j v) := by
  refine ⟨⟨J.1, J.2.1, fun c' j' a a1 aj a2 a3 => ?_, J.2.2.2⟩, Nat.le_refl _, fun _ _ => rfl, fun c' j' a1 a2 => ?_, sf⟩
  · have a2 : (if c' = c then (if j' = j then v else h.2.2.2 c' j') else h.2.2.2 c' j') = .ref a := a2
    split at a2
    · split at a2
      · exact absurd a3 (nv a a2)
      · exact J.2.2.1 c' j' a a1 aj a2 a3
    · exact J.2.2.1 c' j' a a1 aj a2 a3
  · refine ax_put_o (Or.inl fun z => ?_) rfl
    subst z
    rcases a2 with y | ⟨y1, y2⟩
    · exact nc y
    · rw [ow y1] at y2
      cases y2
theorem zd_mk {sh : am_Sh} {N : Nat} {dv : Nat → Value} (J : zd_J P U V h) (kd : ∀ c, zd_kd c sh = true) (s0 : sh.1 = 0 → sh.2.1 ≠ 0 ∧ sh.2.1 ≠ 3 ∧ sh.2.1 ≠ 8) (hd : ∀ j, nh U (dv j)) : zd_J P U V (am_mk h sh N dv) ∧ zd_A P U h (am_mk h sh N dv) ∧ nh U (.ref h.1) := by
  have nU : ¬ U h.1 := fun z => absurd (J.1 _ z).2.1 (Nat.lt_irrefl _)
  have so : ∀ c, c < h.1 → (am_mk h sh N dv).2.2.1 c = h.2.2.1 c := fun c hc => if_neg (by omega)
  have vo : ∀ c j, c < h.1 → (am_mk h sh N dv).2.2.2 c j = h.2.2.2 c j := fun c j hc => if_neg (by omega)
  have sn : (am_mk h sh N dv).2.2.1 h.1 = sh := if_pos rfl
  have vn : ∀ j, (am_mk h sh N dv).2.2.2 h.1 j = dv j := fun j => if_pos rfl
  refine ⟨⟨fun a u => ?_, fun c hc => ?_, fun c j a hc hj e u => ?_, fun c hl hc => ?_⟩, ⟨Nat.le_succ _, so, fun c j hc _ => vo c j hc, fun s => s.mk⟩, fun a e => ?_⟩
  · have q := J.1 a u
    rw [so a q.2.1]
    exact ⟨q.1, Nat.lt_succ_of_lt q.2.1, q.2.2⟩
  · have hc : c < h.1 + 1 := hc
    by_cases z : c = h.1
    · subst z
      rw [sn]
      intro s y
      have w := s0 s
      omega
    · rw [so c (by omega)]
      exact J.2.1 c (by omega)
  · have hc : c < h.1 + 1 := hc
    by_cases z : c = h.1
    · subst z
      rw [vn] at e
      exact absurd u (hd j a e)
    · rw [so c (by omega)] at hj ⊢
      rw [vo c j (by omega)] at e
      exact J.2.2.1 c j a (by omega) hj e u
  · have hc : c < h.1 + 1 := hc
    by_cases z : c = h.1
    · subst z
      rw [sn]
      exact kd _
    · rw [so c (by omega)]
      exact J.2.2.2 c hl (by omega)
  · cases e
    exact nU
/-- what is read from a row isn't hidden -/
theorem zd_rd {a : Nat} {i : Int32} {ok : Nat → Bool} (J : zd_J P U V h) (q : am_rd h a i ok = some v) : nh U v := by
  unfold am_rd at q
  rw [cond_eq_ite] at q
  split at q
  · rename_i k
    simp only [Bool.and_eq_true, Bool.or_eq_true] at k
    split at q
    · cases q
    · rename_i nl
      cases q
      intro a' e u
      have z := (J.2.2.1 a _ a' (Nat.le_of_ble_eq_true k.1.1) (fun _ => Nat.lt_of_not_le fun w => nl (Or.inr w)) e u).1
      rcases k.1.2 with y | y
      · rw [z] at y
        cases y
      · rw [z] at y
        cases y
  · cases q
theorem zd_wr {a tc : Nat} {i : Int32} (J : zd_J P U V h) (na : nh U (.ref a)) (nv : nh U v) (q : am_wr h a i tc v = some h') : zd_J P U V h' ∧ zd_A P U h h' := by
  unfold am_wr at q
  rw [cond_eq_ite] at q
  split at q
  · rename_i k
    simp only [Bool.and_eq_true] at k
    split at q
    · cases q
    · cases q
      exact zd_put J (Nat.le_of_ble_eq_true k.1.1) (na a rfl) (fun z => by
        have y := k.1.2
        rw [z] at y
        cases y) nv (fun s => by
        have sa : (h.2.2.1 a).1 = 1 := Nat.eq_of_beq_eq_true k.1.2
        exact zd_fSp s (by rw [sa]; decide) (fun a1 a2 w => zd_ar a1 a2 (by rw [← s.2.1 a a1 a2]; exact sa)))
  · cases q
theorem zd_O {a ci : Nat} (k : am_isO h a ci = true) : a < h.1 ∧ (h.2.2.1 a).1 = 0 ∧ (h.2.2.1 a).2.1 = ci := by
  unfold am_isO at k
  simp only [Bool.and_eq_true] at k
  exact ⟨Nat.le_of_ble_eq_true k.1.1, Nat.eq_of_beq_eq_true k.1.2, Nat.eq_of_beq_eq_true k.2⟩
theorem zd_gf {a ci j : Nat} (J : zd_J P U V h) (k : am_isO h a ci = true) (q : P.K ci j = false) (hj : j < am_N ci) : nh U (h.2.2.2 a j) := fun a' e u => by
  have o := zd_O k
  have z := (J.2.2.1 a j a' o.1 (fun z => by
    have y := J.2.2.2 a z o.1
    unfold zd_kd at y
    rw [o.2.1, o.2.2] at y
    have y : (Nat.beq (h.2.2.1 a).2.2 (am_N ci) && (Nat.blt a 130 || zd_ko ci)) = true := y
    have y := (Bool.and_eq_true _ _ ▸ y)
    rw [Nat.eq_of_beq_eq_true y.1]
    exact hj) e u).2
  rw [o.2.2, q] at z
  cases z
theorem zd_pf {a ci j : Nat} (J : zd_J P U V h) (k : am_isO h a ci = true) (q : P.W ci = false) (fl : zd_fl ci j = true) (nv : nh U v) : zd_J P U V (am_put h a j v) ∧ zd_A P U h (am_put h a j v) := by
  have o := zd_O k
  refine zd_put J o.1 (fun u => ?_) (fun _ => by rw [o.2.2]; exact q) nv (fun s => zd_fSp s (by rw [o.2.1]; decide) (fun a1 a2 w => zd_fl_ok fl a1 a2 (by rw [← s.2.1 a a1 a2]; exact o.2.1) (by rw [← s.2.1 a a1 a2]; exact o.2.2)))
  have z := (J.1 a u).2.2
  rw [o.2.1, o.2.2, q] at z
  rcases z with z | ⟨-, z⟩
  · cases z
  · cases z
theorem nh_dv {ty : FieldType} : nh U (defaultValue ty) := by
  cases ty <;> first
    | exact nh_i
    | exact nh_l
    | exact nh_n
    | exact fun a z => (by cases z)
theorem nh_adv {c : Nat} : nh U (am_dv c) := by
  unfold am_dv
  split <;> first
    | exact nh_i
    | exact nh_l
    | exact nh_n
def zd_G (P : zdP) (U : Nat → Prop) (V : Nat → Nat → Prop) (h h' : am_H) (ls st : List Value) : Prop := (zd_J P U V h' ∧ zd_A P U h h') ∧ nhL U ls ∧ nhL U st
theorem zd_same (J : zd_J P U V h) (a : nhL U ls) (b : nhL U st) : zd_G P U V h h ls st := ⟨⟨J, zd_A.rf⟩, a, b⟩
theorem zd_st {y : Nat} {e : am_E} {pc pc' : Nat} {ls' st' : List Value} (k : zd_E P y e = true) (J : zd_J P U V h) (a : nhL U ls) (b : nhL U st) (q : am_st e pc ls st h = some (pc', ls', st', h')) : zd_G P U V h h' ls' st' := by
  obtain ⟨i, ln, t, ea, eb, w⟩ := e
  cases i with
  | getfield _ =>
    simp only [am_st] at q
    split at q
    · rw [cond_eq_ite] at q
      split at q
      · rename_i o
        cases q
        have k : (!P.K ea eb && Nat.blt eb (am_N ea)) = true := k
        have k := (Bool.and_eq_true _ _ ▸ k)
        exact zd_same J a (nhL_c (zd_gf J o (by simpa using k.1) (Nat.le_of_ble_eq_true k.2)) (nhL_t b))
      · cases q
    · cases q
  | putfield _ =>
    simp only [am_st] at q
    split at q
    · rw [cond_eq_ite] at q
      split at q
      · rename_i o
        have o := (Bool.and_eq_true _ _ ▸ o)
        cases q
        have k : (!P.W ea && zd_fl ea eb) = true := k
        have k := (Bool.and_eq_true _ _ ▸ k)
        exact ⟨zd_pf J o.1 (by simpa using k.1) k.2 (nhL_h b), a, nhL_t (nhL_t b)⟩
      · cases q
    · cases q
  | iaload | baload | laload | aaload =>
    simp only [am_st] at q
    split at q
    · split at q
      · rename_i r
        cases q
        exact zd_same J a (nhL_c (zd_rd J r) (nhL_t (nhL_t b)))
      · cases q
    · cases q
  | iastore =>
    simp only [am_st] at q
    split at q
    · split at q
      · rename_i r
        cases q
        exact ⟨zd_wr J (nhL_h (nhL_t (nhL_t b))) nh_i r, a, nhL_t (nhL_t (nhL_t b))⟩
      · cases q
    · cases q
  | lastore =>
    simp only [am_st] at q
    split at q
    · split at q
      · rename_i r
        cases q
        exact ⟨zd_wr J (nhL_h (nhL_t (nhL_t b))) nh_l r, a, nhL_t (nhL_t (nhL_t b))⟩
      · cases q
    · cases q
  | bastore =>
    simp only [am_st] at q
    split at q
    · split at q
      · rename_i r
        cases q
        rw [cond_eq_ite] at r
        split at r
        · exact ⟨zd_wr J (nhL_h (nhL_t (nhL_t b))) nh_i r, a, nhL_t (nhL_t (nhL_t b))⟩
        · exact ⟨zd_wr J (nhL_h (nhL_t (nhL_t b))) nh_i r, a, nhL_t (nhL_t (nhL_t b))⟩
      · cases q
    · cases q
  | aastore =>
    simp only [am_st] at q
    split at q
    · rw [cond_eq_ite] at q
      split at q
      · split at q
        · rename_i r
          cases q
          exact ⟨zd_wr J (nhL_h (nhL_t (nhL_t b))) (nhL_h b) r, a, nhL_t (nhL_t (nhL_t b))⟩
        · cases q
      · cases q
    · cases q
  | new _ =>
    simp only [am_st] at q
    cases q
    have k : (!Nat.beq ea 0 && !Nat.beq ea 3 && !Nat.beq ea 8 && zd_ko ea) = true := k
    have kk := (Bool.and_eq_true _ _ ▸ k)
    have k := kk.1
    simp only [Bool.and_eq_true, Bool.not_eq_true'] at k
    obtain ⟨z1, z2, z3⟩ := zd_mk (sh := (0, ea, am_N ea)) (N := am_N ea) (dv := fun j => defaultValue (am_ty ea j)) J (fun c => by
      show (Nat.beq (am_N ea) (am_N ea) && (Nat.blt c 130 || zd_ko ea)) = true
      rw [Nat.beq_refl, kk.2, Bool.or_true]
      rfl) (fun _ => ⟨fun z => by
      have z : ea = 0 := z
      rw [z] at k
      exact absurd k.1.1 (by decide), fun z => by
      have z : ea = 3 := z
      rw [z] at k
      exact absurd k.1.2 (by decide), fun z => by
      have z : ea = 8 := z
      rw [z] at k
      exact absurd k.2 (by decide)⟩) (fun j => nh_dv)
    exact ⟨⟨z1, z2⟩, a, nhL_c z3 b⟩
  | newarray _ =>
    simp only [am_st] at q
    split at q
    · split at q
      · cases q
      · cases q
        obtain ⟨z1, z2, z3⟩ := zd_mk (sh := (1, ea, _)) (N := _) (dv := fun _ => am_dv ea) J (fun c => by
          have k : zd_kr ea = true := k
          show (Nat.blt c 130 || zd_kr ea) = true
          rw [k, Bool.or_true]) (fun z => by cases z) (fun j => nh_adv)
        exact ⟨⟨z1, z2⟩, a, nhL_c z3 (nhL_t b)⟩
    · cases q
  | anewarray _ =>
    simp only [am_st] at q
    split at q
    · split at q
      · cases q
      · cases q
        obtain ⟨z1, z2, z3⟩ := zd_mk (sh := (1, ea, _)) (N := _) (dv := fun _ => .null) J (fun c => by
          have k : zd_kr ea = true := k
          show (Nat.blt c 130 || zd_kr ea) = true
          rw [k, Bool.or_true]) (fun z => by cases z) (fun j => nh_n)
        exact ⟨⟨z1, z2⟩, a, nhL_c z3 (nhL_t b)⟩
    · cases q
  | getstatic _ =>
    simp only [am_st] at q
    cases q
    have k : Nat.blt ea 40 = true := k
    have k := Nat.le_of_ble_eq_true k
    refine zd_same J a (nhL_c (fun a' z u => ?_) b)
    cases z
    have := (J.1 _ u).1
    omega
  | ldc _ =>
    simp only [am_st] at q
    rw [cond_eq_ite] at q
    split at q
    · cases q
      exact zd_same J a (nhL_c nh_i b)
    · cases q
  | ldc_w _ =>
    simp only [am_st] at q
    rw [cond_eq_ite] at q
    split at q
    · cases q
      exact zd_same J a (nhL_c nh_i b)
    · cases q
  | aload _ | aload_n _ =>
    simp only [am_st] at q
    split at q
    · rename_i r
      cases q
      exact zd_same J a (nhL_c (nhL_get a r) b)
    · cases q
      exact zd_same J a (nhL_c nh_n b)
    · cases q
  | astore _ | astore_n _ =>
    simp only [am_st] at q
    split at q
    · rw [cond_eq_ite] at q
      split at q
      · cases q
        exact zd_same J (nhL_s1 a (nhL_h b)) (nhL_t b)
      · cases q
    · rw [cond_eq_ite] at q
      split at q
      · cases q
        exact zd_same J (nhL_s1 a nh_n) (nhL_t b)
      · cases q
    · cases q
  | istore _ | istore_n _ =>
    simp only [am_st] at q
    split at q
    · rw [cond_eq_ite] at q
      split at q
      · cases q
        exact zd_same J (nhL_s1 a nh_i) (nhL_t b)
      · cases q
    · cases q
  | lstore _ | lstore_n _ =>
    simp only [am_st] at q
    split at q
    · rw [cond_eq_ite] at q
      split at q
      · cases q
        exact zd_same J (nhL_s2 a nh_l) (nhL_t b)
      · cases q
    · cases q
  | iinc _ _ =>
    simp only [am_st] at q
    split at q
    · cases q
      exact zd_same J (nhL_s1 a nh_i) b
    · cases q
  | dup =>
    simp only [am_st] at q
    split at q
    · rw [cond_eq_ite] at q
      split at q
      · cases q
        exact zd_same J a (nhL_c (nhL_h b) b)
      · cases q
    · cases q
  | dup2 =>
    simp only [am_st] at q
    split at q
    · rw [cond_eq_ite] at q
      split at q
      · cases q
        exact zd_same J a (nhL_c (nhL_h b) (nhL_c (nhL_h (nhL_t b)) b))
      · cases q
    · cases q
  | pop =>
    simp only [am_st] at q
    split at q
    · rw [cond_eq_ite] at q
      split at q
      · cases q
        exact zd_same J a (nhL_t b)
      · cases q
    · cases q
  | aconst_null =>
    simp only [am_st] at q
    cases q
    exact zd_same J a (nhL_c nh_n b)
  | iconst _ | bipush _ | sipush _ =>
    simp only [am_st] at q
    cases q
    exact zd_same J a (nhL_c nh_i b)
  | lconst _ | ldc2_w _ =>
    simp only [am_st] at q
    cases q
    exact zd_same J a (nhL_c nh_l b)
  | iload _ | iload_n _ =>
    simp only [am_st] at q
    split at q
    · cases q
      exact zd_same J a (nhL_c nh_i b)
    · cases q
  | lload _ | lload_n _ =>
    simp only [am_st] at q
    split at q
    · cases q
      exact zd_same J a (nhL_c nh_l b)
    · cases q
  | iadd | isub | imul | iand | ior | ixor | ishl | ishr | iushr | lcmp =>
    simp only [am_st] at q
    split at q
    · cases q
      exact zd_same J a (nhL_c nh_i (nhL_t (nhL_t b)))
    · cases q
  | idiv | irem =>
    simp only [am_st] at q
    split at q
    · split at q
      · cases q
      · cases q
        exact zd_same J a (nhL_c nh_i (nhL_t (nhL_t b)))
    · cases q
  | ineg | l2i | i2b | i2c =>
    simp only [am_st] at q
    split at q
    · cases q
      exact zd_same J a (nhL_c nh_i (nhL_t b))
    · cases q
  | i2l =>
    simp only [am_st] at q
    split at q
    · cases q
      exact zd_same J a (nhL_c nh_l (nhL_t b))
    · cases q
  | ladd | lsub | lmul | lor | land | lshl =>
    simp only [am_st] at q
    split at q
    · cases q
      exact zd_same J a (nhL_c nh_l (nhL_t (nhL_t b)))
    · cases q
  | ldiv | lrem =>
    simp only [am_st] at q
    split at q
    · split at q
      · cases q
      · cases q
        exact zd_same J a (nhL_c nh_l (nhL_t (nhL_t b)))
    · cases q
  | goto _ =>
    simp only [am_st] at q
    cases q
    exact zd_same J a b
  | ifCond c _ =>
    simp only [am_st] at q
    split at q
    · split at q <;> split at q <;> cases q <;> exact zd_same J a (nhL_t b)
    · cases q
  | if_icmp c _ =>
    simp only [am_st] at q
    split at q
    · split at q <;> split at q <;> cases q <;> exact zd_same J a (nhL_t (nhL_t b))
    · cases q
  | ifnull _ | ifnonnull _ =>
    simp only [am_st] at q
    split at q
    · cases q
      exact zd_same J a (nhL_t b)
    · cases q
      exact zd_same J a (nhL_t b)
    · cases q
  | tableswitch _ _ _ _ =>
    simp only [am_st] at q
    split at q
    · split at q
      · cases q
        exact zd_same J a (nhL_t b)
      · split at q
        · cases q
          exact zd_same J a (nhL_t b)
        · cases q
    · cases q
  | arraylength =>
    simp only [am_st] at q
    split at q
    · split at q
      · cases q
        exact zd_same J a (nhL_c nh_i (nhL_t b))
      · cases q
    · cases q
  | _ =>
    first
      | (simp only [am_st] at q; cases q; done)
      | (simp only [am_st] at q
         repeat' split at q
         all_goals first
           | (cases q; done)
           | (cases q; exact zd_same J a b)
           | (cases q; exact zd_same J a (nhL_t b)))
end HDD
end
section
/-! WHAT IS HIDDEN: runs -/
section HDR
variable {P : zdP} {U : Nat → Prop} {V : Nat → Nat → Prop} {Q : am_H → Prop} {h h' : am_H} {ls st : List Value} {v w : Value} {rec : am_F} {d y pc : Nat} {x : Option Value × am_H}
def zd_X (P : zdP) (U : Nat → Prop) (V : Nat → Nat → Prop) (Q : am_H → Prop) (x : Option Value × am_H) : Prop := zd_J P U V x.2 ∧ Q x.2 ∧ ∀ v, x.1 = some v → nh U v
def zd_H (P : zdP) (U : Nat → Prop) (V : Nat → Nat → Prop) (Q : am_H → Prop) (rec : am_F) : Prop := ∀ d y pc ls st h x, rec d y pc ls st h = some x → P.S y = true → P.D y ≤ d → zd_J P U V h → Q h → nhL U ls → nhL U st → zd_X P U V Q x
theorem nh_ob {a ci : Nat} (J : zd_J P U V h) (k : P.W ci = false) (o : am_isO h a ci = true) : nh U (.ref a) := fun a' e u => by
  cases e
  have z := (J.1 a u).2.2
  rw [(zd_O o).2.1, (zd_O o).2.2, k] at z
  rcases z with z | ⟨-, z⟩
  · cases z
  · cases z
theorem nh_ar {a j : Nat} (J : zd_J P U V h) (ha : a < h.1) (n : (h.2.2.1 a).1 ≠ 0) (hj : 40 ≤ a → j < (h.2.2.1 a).2.2) : nh U (h.2.2.2 a j) := fun a' e u => n (J.2.2.1 a j a' ha hj e u).1
theorem nhL_take {n : Nat} (b : nhL U st) : nhL U (st.take n).reverse := fun v m => b v (List.mem_of_mem_take (List.mem_reverse.1 m))
theorem nhL_drop {n : Nat} (b : nhL U st) : nhL U (st.drop n) := fun v m => b v (List.mem_of_mem_drop m)
theorem nhL_ent {mx : Nat} (b : nhL U st) : nhL U (am_ent st mx) := fun v m => by
  unfold am_ent at m
  rcases List.mem_append.1 m with m | m
  · unfold am_wid at m
    obtain ⟨w, m1, m2⟩ := List.mem_flatMap.1 m
    rw [cond_eq_ite] at m2
    split at m2
    · rcases List.mem_cons.1 m2 with rfl | m2
      · exact b _ m1
      · rw [List.mem_singleton.1 m2]
        exact nh_r
    · rw [List.mem_singleton.1 m2]
      exact b _ m1
  · rw [(List.mem_replicate.1 m).2]
    exact nh_r
theorem zd_row {c : Nat} {dv : Nat → Value} (J : zd_J P U V h) (nc : ¬ U c) (ow : (h.2.2.1 c).1 = 0 → P.W (h.2.2.1 c).2.1 = false) (nv : ∀ j, (40 ≤ c → j < (h.2.2.1 c).2.2) → nh U (dv j)) (sf : fS h → fS (h.1, h.2.1, h.2.2.1, am_row h.2.2.2 c dv)) : zd_J P U V (h.1, h.2.1, h.2.2.1, am_row h.2.2.2 c dv) ∧ zd_A P U h (h.1, h.2.1, h.2.2.1, am_row h.2.2.2 c dv) := by
  refine ⟨⟨J.1, J.2.1, fun c' j' a a1 aj a2 a3 => ?_, J.2.2.2⟩, Nat.le_refl _, fun _ _ => rfl, fun c' j' a1 a2 => ?_, sf⟩
  · have a2 : (if c' = c then dv j' else h.2.2.2 c' j') = .ref a := a2
    split at a2
    · rename_i ec
      exact absurd a3 (nv j' (ec ▸ aj) a a2)
    · exact J.2.2.1 c' j' a a1 aj a2 a3
  · refine if_neg fun z => ?_
    subst z
    rcases a2 with y | ⟨y1, y2⟩
    · exact nc y
    · rw [ow y1] at y2
      cases y2
theorem zd_cp {a b : Nat} {sp dp n : Int32} (J : zd_J P U V h) (nb : nh U (.ref b)) (q : am_cp h a sp b dp n = some h') : zd_J P U V h' ∧ zd_A P U h h' := by
  unfold am_cp at q
  rw [cond_eq_ite] at q
  split at q
  · rename_i k
    simp only [Bool.and_eq_true, Bool.or_eq_true] at k
    split at q
    · cases q
    · rename_i nn
      rw [cond_eq_ite] at q
      split at q
      · cases q
        have ha : a < h.1 := Nat.le_of_ble_eq_true k.1.1.1.1.1
        have hb : b < h.1 := Nat.le_of_ble_eq_true k.1.1.2
        have sb : (h.2.2.1 b).1 = 1 := Nat.eq_of_beq_eq_true k.1.2
        have sa : (h.2.2.1 a).1 ≠ 0 := fun z => by
          rcases k.1.1.1.1.2 with y | y
          · rw [z] at y
            cases y
          · rw [z] at y
            cases y
        refine zd_row J (nb b rfl) (fun z => by rw [sb] at z; cases z) (fun j hj => ?_) (fun s => zd_fS s (by rw [sb]; decide) (fun a1 a2 j w e => absurd e (zd_ar a1 a2 (by rw [← s.2.1 b a1 a2]; exact sb))))
        split
        · rename_i c1
          exact nh_ar J ha sa (fun _ => by omega)
        · exact nh_ar J hb (by rw [sb]; decide) hj
      · cases q
  · cases q
theorem zd_79 (j : Nat) : (!true || !Nat.beq (cq_ty 79 j).1 3) = true := by
  rcases Nat.lt_or_ge j 40 with q | q
  · have z : ((List.range 40).all fun j => !Nat.beq (cq_ty 79 j).1 3) = true := by decide +kernel
    exact List.all_eq_true.1 z j (List.mem_range.2 q)
  · obtain ⟨k, rfl⟩ : ∃ k, j = k + 40 := ⟨j - 40, by omega⟩
    rfl
theorem zd_f12 (j : Nat) : zd_fl 12 j = true := by
  unfold zd_fl
  rw [List.all_eq_true]
  intro c hc
  have hc := List.mem_range.1 hc
  cases q : Nat.ble 40 c && Nat.beq (cq_fix c).1 0 && Nat.beq (cq_fix c).2.1 12 with
  | false => rfl
  | true =>
    have z : ((List.range 130).all fun c => !(Nat.ble 40 c && Nat.beq (cq_fix c).1 0 && Nat.beq (cq_fix c).2.1 12) || Nat.beq c 79) = true := by decide +kernel
    have y := List.all_eq_true.1 z c (List.mem_range.2 hc)
    rw [q] at y
    have y : c = 79 := Nat.eq_of_beq_eq_true y
    subst y
    exact zd_79 j
theorem zd_stop {a : Nat} (J : zd_J P U V h) (o : am_isO h a 12 = true) (k1 : P.W 12 = false) (k2 : ∀ j, P.K 12 j = false) : zd_J P U V (am_stop h a) ∧ zd_A P U h (am_stop h a) := by
  have oo := zd_O o
  refine zd_row J (nh_ob J k1 o a rfl) (fun _ => by rw [oo.2.2]; exact k1) (fun j hj => ?_) (fun s => zd_fS s (by rw [oo.2.1]; decide) (fun a1 a2 j w e => absurd e (zd_fl_ok (k := 12) (zd_f12 j) a1 a2 (by rw [← s.2.1 a a1 a2]; exact oo.2.1) (by rw [← s.2.1 a a1 a2]; exact oo.2.2))))
  rw [cond_eq_ite]
  split
  · exact nh_n
  · intro a' e u
    have z := (J.2.2.1 a j a' oo.1 hj e u).2
    rw [oo.2.2, k2] at z
    cases z
theorem zd_thr {a : Nat} (k1 : P.W 12 = false) (R : zd_H P U V Q rec) (hy : P.S y = true) (hd : P.D y ≤ d) (J : zd_J P U V h) (q : Q h) (l : nhL U ls) (e : am_thr rec d y pc ls a h = some x) : zd_X P U V Q x := by
  unfold am_thr at e
  rw [cond_eq_ite] at e
  split at e
  · rename_i o
    have o := (Bool.and_eq_true _ _ ▸ o).1
    split at e
    · exact R _ _ _ _ _ _ _ e hy hd J q l (nhL_c (nh_ob J k1 o) nhL_0)
    · cases e
      exact ⟨J, q, fun v z => by cases z; exact nh_r⟩
  · cases e
theorem zd_cas {e : am_E} (R : zd_H P U V Q rec) (hy : P.S y = true) (hd : P.D y ≤ d) (J : zd_J P U V h) (q : Q h) (l : nhL U ls) (b : nhL U st) (k : am_cas rec d y pc ls st h e = some x) : zd_X P U V Q x := by
  unfold am_cas at k
  split at k
  · cases k
  · rw [cond_eq_ite] at k
    split at k
    · split at k
      · rw [cond_eq_ite] at k
        split at k
        · exact R _ _ _ _ _ _ _ k hy hd J q l (nhL_c nh_i (nhL_t b))
        · cases k
      · cases k
    · split at k
      · rw [cond_eq_ite] at k
        split at k
        · exact R _ _ _ _ _ _ _ k hy hd J q l (nhL_c nh_i (nhL_t (nhL_t b)))
        · cases k
      · cases k
/-- what a run must know of what it calls -/
def zd_K (P : zdP) (U : Nat → Prop) (V : Nat → Nat → Prop) (Q : am_H → Prop) : Prop := (∀ y, P.S y = true → ∀ pc e, pc < am_bd y → am_code y pc = some e → zd_E P y e = true) ∧ (∀ y, P.R y = true → ∀ pc e, pc < am_bd y → am_code y pc = some e → zd_R e = true) ∧ (P.W 12 = false) ∧ (∀ j, P.K 12 j = false) ∧ (∀ h h', zd_J P U V h → Q h → zd_J P U V h' → zd_A P U h h' → Q h') ∧ (∀ z, P.Z z = true → ∀ n d as h x, P.D z ≤ d → zd_J P U V h → Q h → nhL U as → as.length = (am_in z).2.1 → am_rcv z as h = true → am_run n d z 0 (am_ent as (am_in z).2.2.1) [] h = some x → zd_X P U V Q x)
theorem zd_K.kS (X : zd_K P U V Q) : ∀ y, P.S y = true → ∀ pc e, pc < am_bd y → am_code y pc = some e → zd_E P y e = true := X.1
theorem zd_K.kR (X : zd_K P U V Q) : ∀ y, P.R y = true → ∀ pc e, pc < am_bd y → am_code y pc = some e → zd_R e = true := X.2.1
theorem zd_K.kW (X : zd_K P U V Q) : P.W 12 = false := X.2.2.1
theorem zd_K.kK (X : zd_K P U V Q) : ∀ j, P.K 12 j = false := X.2.2.2.1
theorem zd_K.kQ (X : zd_K P U V Q) : ∀ h h', zd_J P U V h → Q h → zd_J P U V h' → zd_A P U h h' → Q h' := X.2.2.2.2.1
theorem zd_K.kZ (X : zd_K P U V Q) : ∀ z, P.Z z = true → ∀ n d as h x, P.D z ≤ d → zd_J P U V h → Q h → nhL U as → as.length = (am_in z).2.1 → am_rcv z as h = true → am_run n d z 0 (am_ent as (am_in z).2.2.1) [] h = some x → zd_X P U V Q x := X.2.2.2.2.2
theorem zd_D {a b : Nat} (q : (Nat.blt a b || Nat.beq a 0) = true) : ∀ d : Nat, b ≤ d + 1 → a ≤ d := fun d h => by
  simp only [Bool.or_eq_true] at q
  rcases q with z | z
  · have := Nat.le_of_ble_eq_true z
    omega
  · have := Nat.eq_of_beq_eq_true z
    omega
theorem zd_cal0 {n : Nat} {e : am_E} (X : zd_K P U V Q) (R : zd_H P U V Q (am_run n)) (hy : P.S y = true) (hd : P.D y ≤ d) (kc : zd_C P y e.2.2.2.1 = true) (J : zd_J P U V h) (q : Q h) (l : nhL U ls) (b : nhL U st) (k : am_cal0 (am_run n) d y pc ls st h e = some x) (n3 : Nat.beq e.2.2.2.1 1003 = false) (n4 : Nat.beq e.2.2.2.1 1004 = false) : zd_X P U V Q x := by
  unfold am_cal0 at k
  split at k
  · cases k
  · rename_i d'
    simp only [cond_eq_ite] at k
    split at k
    · split at k
      · split at k
        · exact R _ _ _ _ _ _ _ k hy hd J q l (nhL_t b)
        · cases k
      · cases k
    · rename_i z0
      split at k
      · split at k
        · split at k
          · split at k
            · rename_i hcp
              have b3 := nhL_t (nhL_t b)
              have g := zd_cp J (nhL_h b3) hcp
              exact R _ _ _ _ _ _ _ k hy hd g.1 (X.kQ _ _ J q g.1 g.2) l (nhL_t (nhL_t (nhL_t b3)))
            · cases k
          · cases k
        · cases k
      · rename_i z1
        split at k
        · split at k
          · split at k
            · rename_i o
              simp only [Bool.and_eq_true] at o
              have g := zd_stop J o.1.2 X.kW X.kK
              exact R _ _ _ _ _ _ _ k hy hd g.1 (X.kQ _ _ J q g.1 g.2) l (nhL_t b)
            · cases k
          · cases k
        · rename_i z2
          split at k
          · split at k
            · split at k
              · exact R _ _ _ _ _ _ _ k hy hd J q l (nhL_c nh_i (nhL_t (nhL_t b)))
              · cases k
            · cases k
          · rename_i z5
            split at k
            · split at k
              · split at k
                · exact R _ _ _ _ _ _ _ k hy hd J q l (nhL_c nh_i (nhL_t (nhL_t b)))
                · cases k
              · cases k
            · rename_i z6
              split at k
              · rename_i hc
                simp only [Bool.and_eq_true] at hc
                split at k
                · rename_i v h2 he
                  have g : zd_X P U V Q (v, h2) := by
                    unfold zd_C at kc
                    simp only [Bool.or_eq_true] at kc
                    rcases kc with ((((((((kc | kc) | kc) | kc) | kc) | kc) | kc) | kc) | kc) | kc
                    · exact absurd kc z0
                    · exact absurd kc z1
                    · exact absurd kc z2
                    · rw [n3] at kc
                      cases kc
                    · rw [n4] at kc
                      cases kc
                    · exact absurd kc z5
                    · exact absurd kc z6
                    · obtain ⟨r1, v', r2, r3, r4⟩ := zd_ro (X.kR _ kc) _ _ _ _ _ _ _ he
                      have r1 : h2 = h := r1
                      subst r1
                      exact ⟨J, q, fun w z => by
                        have r2 : v = some v' := r2
                        have z : v = some w := z
                        rw [r2] at z
                        cases z
                        exact fun a z2 => absurd z2 (r3 a)⟩
                    · have kc := (Bool.and_eq_true _ _ ▸ kc)
                      have kd := zd_D kc.2
                      exact R _ _ _ _ _ _ _ he kc.1 (kd _ hd) J q (nhL_ent (nhL_take b)) nhL_0
                    · have kc := (Bool.and_eq_true _ _ ▸ kc)
                      have kd := zd_D kc.2
                      exact X.kZ _ kc.1 _ _ _ _ _ (kd _ hd) J q (nhL_take b) (by rw [List.length_reverse, List.length_take]; have := Nat.le_of_ble_eq_true hc.1.1.1.2; omega) hc.1.2 he
                  split at k
                  · split at k
                    · exact zd_thr X.kW R hy hd g.1 g.2.1 l k
                    · cases k
                  · refine R _ _ _ _ _ _ _ k hy hd g.1 g.2.1 l (fun w m => ?_)
                    rcases List.mem_append.1 m with m | m
                    · cases v with
                      | none => cases m
                      | some v' =>
                        rw [List.mem_singleton.1 m]
                        exact g.2.2 v' rfl
                    · exact nhL_drop b w m
                · cases k
              · cases k
theorem zd_cal {n : Nat} {e : am_E} (X : zd_K P U V Q) (R : zd_H P U V Q (am_run n)) (hy : P.S y = true) (hd : P.D y ≤ d) (kc : zd_C P y e.2.2.2.1 = true) (J : zd_J P U V h) (q : Q h) (l : nhL U ls) (b : nhL U st) (k : am_cal (am_run n) d y pc ls st h e = some x) : zd_X P U V Q x := by
  unfold am_cal at k
  rw [cond_eq_ite] at k
  split at k
  · exact zd_cas R hy hd J q l b k
  · rename_i z
    simp only [Bool.or_eq_true, not_or, Bool.not_eq_true] at z
    exact zd_cal0 X R hy hd kc J q l b k z.1 z.2
theorem zd_lds {e : am_E} (R : zd_H P U V Q rec) (hy : P.S y = true) (hd : P.D y ≤ d) (ke : zd_E P y e = true) (J : zd_J P U V h) (q : Q h) (l : nhL U ls) (b : nhL U st) (k : am_lds rec d y pc ls st h e = some x) : zd_X P U V Q x := by
  unfold am_lds at k
  unfold zd_E at ke
  have ns : ∀ i : Nat, Nat.blt i 33 = true → nh U (.ref (7 + i)) := fun i hi a z u => by
    cases z
    have := (J.1 _ u).1
    have := Nat.le_of_ble_eq_true hi
    omega
  split at k
  · rename_i ei
    split at k
    · rename_i hi
      rw [ei] at ke
      dsimp only at ke
      rw [hi] at ke
      exact R _ _ _ _ _ _ _ k hy hd J q l (nhL_c (ns _ ke) b)
    · cases k
  · rename_i ei
    split at k
    · rename_i hi
      rw [ei] at ke
      dsimp only at ke
      rw [hi] at ke
      exact R _ _ _ _ _ _ _ k hy hd J q l (nhL_c (ns _ ke) b)
    · cases k
  · cases k
theorem zd_run (X : zd_K P U V Q) : ∀ n, zd_H P U V Q (am_run n)
  | 0 => fun d y pc ls st h x k => by cases k
  | n + 1 => fun d y pc ls st h x k hy hd J q l b => by
    have R := zd_run X n
    rw [am_run_s] at k
    unfold am_one at k
    split at k
    · cases k
    · rename_i e he
      rw [cond_eq_ite] at he
      split at he
      · rename_i hp
        have hp := (Bool.and_eq_true _ _ ▸ hp)
        have ke := X.kS y hy pc e (Nat.le_of_ble_eq_true hp.2) he
        split at k
        · split at k
          · rw [cond_eq_ite] at k
            split at k
            · cases k
              exact ⟨J, q, fun v z => by cases z; exact nh_i⟩
            · cases k
          · cases k
        · split at k
          · cases k
            exact ⟨J, q, fun v z => by cases z; exact nh_l⟩
          · cases k
        · split at k
          · cases k
            exact ⟨J, q, fun v z => by cases z; exact nh_n⟩
          · cases k
            exact ⟨J, q, fun v z => by cases z; exact nhL_h b⟩
          · cases k
        · split at k
          · cases k
            exact ⟨J, q, fun v z => by cases z⟩
          · cases k
        · split at k
          · exact zd_thr X.kW R hy hd J q l k
          · cases k
        · rename_i ei
          unfold zd_E at ke
          rw [ei] at ke
          exact zd_cal X R hy hd ke J q l b k
        · rename_i ei
          unfold zd_E at ke
          rw [ei] at ke
          exact zd_cal X R hy hd ke J q l b k
        · rename_i ei
          unfold zd_E at ke
          rw [ei] at ke
          exact zd_cal X R hy hd ke J q l b k
        · split at k
          · rename_i hs
            obtain ⟨⟨g1, g2⟩, g3, g4⟩ := zd_st ke J l b hs
            exact R _ _ _ _ _ _ _ k hy hd g1 (X.kQ _ _ J q g1 g2) g3 g4
          · exact zd_lds R hy hd ke J q l b k
      · cases he
/-- all entries of a method by a walk over its places -/
def zd_all (c : am_E → Bool) (y : Nat) : Bool := (List.range (am_bd y)).all fun pc => match am_code y pc with
  | none => true
  | some e => c e
theorem zd_all_ok {c : am_E → Bool} {y pc : Nat} {e : am_E} (q : zd_all c y = true) (hp : pc < am_bd y) (he : am_code y pc = some e) : c e = true := by
  have z := List.all_eq_true.1 q pc (List.mem_range.2 hp)
  rw [he] at z
  exact z
end HDR
end
