/-! THE CHECKER, 18: every step that is no call, no return and no throw -/
def cq_ex (m : cq_W) (e : am_E) (pc : Nat) (ls st : List cq_A) (S : cq_S) : Option (List cq_O) := match e.1 with
  | .getfield _ => cq_gf e.2.2.2.1 e.2.2.2.2.1 (pc + 3) ls st S
  | .putfield _ => cq_pf m e.2.2.2.1 e.2.2.2.2.1 (pc + 3) ls st S
  | .iaload => cq_ald (fun c => Nat.beq c 0) (pc + 1) ls st S
  | .baload => cq_ald (fun c => Nat.beq c 1 || Nat.beq c 2) (pc + 1) ls st S
  | .laload => cq_ald (fun c => Nat.beq c 3) (pc + 1) ls st S
  | .aaload => cq_ald (fun c => Nat.ble 4 c && am_isA c) (pc + 1) ls st S
  | .iastore => cq_ast m 0 (pc + 1) ls st S
  | .bastore => cq_ast m 1 (pc + 1) ls st S
  | .lastore => cq_ast m 2 (pc + 1) ls st S
  | .aastore => cq_ast m 3 (pc + 1) ls st S
  | .arraylength => cq_aln (pc + 1) ls st S
  | .new _ => cq_new e.2.2.2.1 (pc + 3) ls st S
  | .newarray _ => cq_nar false e.2.2.2.1 (pc + 2) ls st S
  | .anewarray _ => cq_nar true e.2.2.2.1 (pc + 3) ls st S
  | _ => cq_pu e pc ls st S
section CSI
variable {m : cq_W} {h0 : am_H} {ρ : Nat → Int} {S : cq_S} {h : am_H} {als ast : List cq_A} {ls st : List Value} {out : List cq_O} {e : am_E} {pc pc' : Nat}
theorem cq_ex_ok (H : cq_Rb m h0 ρ S als ast ls st h) (q : cq_ex m e pc als ast S = some out) : cq_Res m h0 ρ S.n out (am_st e pc ls st h) := by
  unfold cq_ex at q
  split at q
  · rename_i x he
    exact cq_gf_ok he H q
  · rename_i x he
    exact cq_pf_ok he H q
  · rename_i he
    obtain ⟨i, a, rs, es, R⟩ := cq_ald_ok H q
    subst es
    simp only [am_st, he]
    exact R
  · rename_i he
    obtain ⟨i, a, rs, es, R⟩ := cq_ald_ok H q
    subst es
    simp only [am_st, he]
    exact R
  · rename_i he
    obtain ⟨i, a, rs, es, R⟩ := cq_ald_ok H q
    subst es
    simp only [am_st, he]
    exact R
  · rename_i he
    obtain ⟨i, a, rs, es, R⟩ := cq_ald_ok H q
    subst es
    simp only [am_st, he]
    exact R
  · rename_i he
    exact cq_ias_ok he H q
  · rename_i he
    exact cq_bas_ok he H q
  · rename_i he
    exact cq_las_ok he H q
  · rename_i he
    exact cq_aas_ok he H q
  · rename_i he
    exact cq_aln_ok he H q
  · rename_i x he
    exact cq_new_ok he H q
  · rename_i x he
    obtain ⟨n, rs, es, hn, -, -, R⟩ := cq_nar_ok H q
    subst es
    simp only [am_st, he, if_neg hn]
    exact R
  · rename_i x he
    obtain ⟨n, rs, es, hn, h7, -, R⟩ := cq_nar_ok H q
    subst es
    have e7 := h7 rfl
    simp only [am_st, he, if_neg hn]
    rw [e7] at R ⊢
    exact R
  · exact cq_pu_ok H q
end CSI
