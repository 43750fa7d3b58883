/-! THE CHECKER, 1: linear forms over symbols, bounds, what follows from them -/
abbrev cq_F : Type := Int × List (Nat × Int)
def cq_eT (ρ : Nat → Int) : List (Nat × Int) → Int
  | [] => 0
  | t :: r => t.2 * ρ t.1 + cq_eT ρ r
def cq_e (ρ : Nat → Int) (f : cq_F) : Int := f.1 + cq_eT ρ f.2
def cq_z (a : Int) : Bool := match a with
  | .ofNat n => Nat.beq n 0
  | .negSucc _ => false
def cq_p (a : Int) : Bool := match a with
  | .ofNat _ => true
  | .negSucc _ => false
theorem cq_z_eq {a : Int} (h : cq_z a = true) : a = 0 := by
  cases a with
  | ofNat n => rw [am_beq h]; rfl
  | negSucc n => cases h
theorem cq_p_le {a : Int} (h : cq_p a = true) : 0 ≤ a := by
  cases a with
  | ofNat n => exact Int.natCast_nonneg n
  | negSucc n => cases h
theorem cq_p_of {a : Int} (h : 0 ≤ a) : cq_p a = true := by
  cases a with
  | ofNat n => rfl
  | negSucc n => exact absurd h (by omega)
def cq_ins (s : Nat) (k : Int) : List (Nat × Int) → List (Nat × Int)
  | [] => [(s, k)]
  | t :: r => bif Nat.beq t.1 s then (bif cq_z (t.2 + k) then r else (t.1, t.2 + k) :: r) else bif Nat.blt s t.1 then (s, k) :: t :: r else t :: cq_ins s k r
theorem cq_ins_e (ρ : Nat → Int) (s : Nat) (k : Int) : ∀ l, cq_eT ρ (cq_ins s k l) = k * ρ s + cq_eT ρ l
  | [] => by simp [cq_ins, cq_eT]
  | t :: r => by
    unfold cq_ins
    cases h1 : Nat.beq t.1 s with
    | true =>
      have e1 := am_beq h1
      cases h2 : cq_z (t.2 + k) with
      | true =>
        have e2 := cq_z_eq h2
        simp only [cond_true, cq_eT]
        have e3 : k = - t.2 := by omega
        rw [e3, ← e1, Int.neg_mul]
        omega
      | false =>
        simp only [cond_true, cond_false, cq_eT]
        rw [← e1, Int.add_mul]
        omega
    | false =>
      simp only [cond_false]
      cases h2 : Nat.blt s t.1 with
      | true => simp only [cond_true, cq_eT]
      | false =>
        simp only [cond_false, cq_eT]
        rw [cq_ins_e ρ s k r]
        omega
def cq_addT : List (Nat × Int) → List (Nat × Int) → List (Nat × Int)
  | [], l => l
  | t :: r, l => cq_addT r (cq_ins t.1 t.2 l)
theorem cq_addT_e (ρ : Nat → Int) : ∀ l m, cq_eT ρ (cq_addT l m) = cq_eT ρ l + cq_eT ρ m
  | [], m => by simp [cq_addT, cq_eT]
  | t :: r, m => by
    simp only [cq_addT, cq_eT]
    rw [cq_addT_e ρ r, cq_ins_e]
    omega
def cq_scT (k : Int) : List (Nat × Int) → List (Nat × Int)
  | [] => []
  | t :: r => (t.1, k * t.2) :: cq_scT k r
theorem cq_scT_e (ρ : Nat → Int) (k : Int) : ∀ l, cq_eT ρ (cq_scT k l) = k * cq_eT ρ l
  | [] => by simp [cq_scT, cq_eT]
  | t :: r => by
    simp only [cq_scT, cq_eT]
    rw [cq_scT_e ρ k r, Int.mul_add, Int.mul_assoc]
def cq_c (c : Int) : cq_F := (c, [])
def cq_s (s : Nat) : cq_F := (0, [(s, 1)])
def cq_add (f g : cq_F) : cq_F := (f.1 + g.1, cq_addT g.2 f.2)
def cq_sc (k : Int) (f : cq_F) : cq_F := bif cq_z k then (0, []) else (k * f.1, cq_scT k f.2)
def cq_sub (f g : cq_F) : cq_F := cq_add f (cq_sc (-1) g)
def cq_ac (f : cq_F) (c : Int) : cq_F := (f.1 + c, f.2)
theorem cq_c_e (ρ : Nat → Int) (c : Int) : cq_e ρ (cq_c c) = c := by simp [cq_e, cq_c, cq_eT]
theorem cq_s_e (ρ : Nat → Int) (s : Nat) : cq_e ρ (cq_s s) = ρ s := by simp [cq_e, cq_s, cq_eT]
theorem cq_add_e (ρ : Nat → Int) (f g : cq_F) : cq_e ρ (cq_add f g) = cq_e ρ f + cq_e ρ g := by
  simp only [cq_e, cq_add, cq_addT_e]
  omega
theorem cq_sc_e (ρ : Nat → Int) (k : Int) (f : cq_F) : cq_e ρ (cq_sc k f) = k * cq_e ρ f := by
  unfold cq_sc
  cases h : cq_z k with
  | true =>
    rw [cq_z_eq h]
    simp [cq_e, cq_eT]
  | false =>
    simp only [cond_false, cq_e, cq_scT_e, Int.mul_add]
theorem cq_sub_e (ρ : Nat → Int) (f g : cq_F) : cq_e ρ (cq_sub f g) = cq_e ρ f - cq_e ρ g := by
  simp only [cq_sub, cq_add_e, cq_sc_e]
  omega
theorem cq_ac_e (ρ : Nat → Int) (f : cq_F) (c : Int) : cq_e ρ (cq_ac f c) = cq_e ρ f + c := by
  simp only [cq_e, cq_ac]
  omega
/-- a form without symbols -/
def cq_k (f : cq_F) : Bool := match f.2 with
  | [] => true
  | _ => false
theorem cq_k_e {f : cq_F} (h : cq_k f = true) (ρ : Nat → Int) : cq_e ρ f = f.1 := by
  obtain ⟨c, l⟩ := f
  cases l with
  | nil => simp [cq_e, cq_eT]
  | cons t r => cases h
/-- bounds: the newest first; every one of them holds -/
abbrev cq_B : Type := List (Nat × Int × Int)
def cq_bOk (ρ : Nat → Int) (B : cq_B) : Prop := ∀ b ∈ B, b.2.1 ≤ ρ b.1 ∧ ρ b.1 ≤ b.2.2
def cq_bd (s : Nat) : cq_B → Option (Int × Int)
  | [] => none
  | b :: r => bif Nat.beq b.1 s then some b.2 else cq_bd s r
theorem cq_bd_ok {ρ : Nat → Int} {s : Nat} {b : Int × Int} : ∀ {B : cq_B}, cq_bOk ρ B → cq_bd s B = some b → b.1 ≤ ρ s ∧ ρ s ≤ b.2
  | [], _, h => by cases h
  | a :: r, hB, h => by
    unfold cq_bd at h
    cases h1 : Nat.beq a.1 s with
    | true =>
      rw [h1] at h
      have e := Option.some.inj h
      have := hB a (List.mem_cons_self)
      rw [am_beq h1] at this
      rw [← e]
      exact this
    | false =>
      rw [h1] at h
      exact cq_bd_ok (fun b hb => hB b (List.mem_cons_of_mem _ hb)) h
/-- the least that a form can be -/
def cq_loT (B : cq_B) : List (Nat × Int) → Int → Option Int
  | [], c => some c
  | t :: r, c => match cq_bd t.1 B with
    | none => none
    | some b => cq_loT B r (c + t.2 * (bif cq_p t.2 then b.1 else b.2))
def cq_lo (B : cq_B) (f : cq_F) : Option Int := cq_loT B f.2 f.1
theorem cq_loT_ok {ρ : Nat → Int} {B : cq_B} (hB : cq_bOk ρ B) : ∀ {l : List (Nat × Int)} {c m : Int}, cq_loT B l c = some m → m ≤ c + cq_eT ρ l
  | [], c, m, h => by
    simp only [cq_loT] at h
    have := Option.some.inj h
    simp only [cq_eT]
    omega
  | t :: r, c, m, h => by
    unfold cq_loT at h
    cases hb : cq_bd t.1 B with
    | none => rw [hb] at h; cases h
    | some b =>
      rw [hb] at h
      have hk := cq_loT_ok hB h
      have hbb := cq_bd_ok hB hb
      simp only [cq_eT]
      cases hp : cq_p t.2 with
      | true =>
        rw [hp] at hk
        simp only [cond_true] at hk
        have := Int.mul_le_mul_of_nonneg_left hbb.1 (cq_p_le hp)
        omega
      | false =>
        rw [hp] at hk
        simp only [cond_false] at hk
        have hn : t.2 ≤ 0 := by
          rcases Int.le_total t.2 0 with q | q
          · exact q
          · rw [cq_p_of q] at hp; cases hp
        have := Int.mul_le_mul_of_nonpos_left hn hbb.2
        omega
theorem cq_lo_ok {ρ : Nat → Int} {B : cq_B} (hB : cq_bOk ρ B) {f : cq_F} {m : Int} (h : cq_lo B f = some m) : m ≤ cq_e ρ f := cq_loT_ok hB h
/-- f is at least 0, by bounds alone -/
def cq_nn (B : cq_B) (f : cq_F) : Bool := match cq_lo B f with
  | none => false
  | some m => cq_p m
theorem cq_nn_ok {ρ : Nat → Int} {B : cq_B} (hB : cq_bOk ρ B) {f : cq_F} (h : cq_nn B f = true) : 0 ≤ cq_e ρ f := by
  unfold cq_nn at h
  cases hl : cq_lo B f with
  | none => rw [hl] at h; cases h
  | some m =>
    rw [hl] at h
    have := cq_lo_ok hB hl
    have := cq_p_le h
    omega
def cq_gOk (ρ : Nat → Int) (Gm : List cq_F) : Prop := ∀ g ∈ Gm, 0 ≤ cq_e ρ g
def cq_ieq (a b : Int) : Bool := cq_z (a - b)
/-- do the two share a term -/
def cq_cf (s : Nat) : List (Nat × Int) → Int
  | [] => 0
  | t :: r => bif Nat.beq t.1 s then t.2 else cq_cf s r
def cq_sh (f : List (Nat × Int)) : List (Nat × Int) → Bool
  | [] => false
  | t :: r => cq_ieq (cq_cf t.1 f) t.2 || cq_sh f r
/-- f is at least 0, by bounds and facts -/
def cq_ent (B : cq_B) (Gm : List cq_F) : Nat → cq_F → Bool
  | 0, f => cq_nn B f
  | d + 1, f => cq_nn B f || Gm.any (fun g => cq_sh f.2 g.2 && cq_ent B Gm d (cq_sub f g))
theorem cq_ent_ok {ρ : Nat → Int} {B : cq_B} {Gm : List cq_F} (hB : cq_bOk ρ B) (hG : cq_gOk ρ Gm) : ∀ {d : Nat} {f : cq_F}, cq_ent B Gm d f = true → 0 ≤ cq_e ρ f
  | 0, f, h => cq_nn_ok hB h
  | d + 1, f, h => by
    unfold cq_ent at h
    rcases Bool.or_eq_true _ _ ▸ h with q | q
    · exact cq_nn_ok hB q
    · obtain ⟨g, hg, q2⟩ := List.any_eq_true.1 q
      have q3 := cq_ent_ok hB hG (Bool.and_eq_true _ _ ▸ q2).2
      have := hG g hg
      rw [cq_sub_e] at q3
      omega
