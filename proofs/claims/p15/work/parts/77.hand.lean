/-! BY HAND, 4: isAllowed -/
section HDA
variable {h : am_H} {p bl bd ck : Int32} {d : Nat}
/-- pagesAs: it may be printed where it answers -/
theorem hd_229 (I : cq_Inv none h) (hp : 0 ≤ p.toInt ∧ p.toInt ≤ 39) (hd : 5 ≤ d) : ∃ (r : Int32) (h' : am_H), am_ev d 229 0 (am_ent [.ref 78, .int p] (am_in 229).2.2.1) [] h (some (.int r), h') ∧ (r = -1 ∨ 0 ≤ cq_U h 230 p.toInt) ∧ cq_Inv none h' ∧ cq_Fr [(false, 98, 0, 0), (false, 99, 0, 0)] h h' ∧ h'.1 ≤ h.1 ∧ h'.2.1 ≤ h.2.1 := by
  let ρ : Nat → Int := fun s => match s with
    | 0 => p.toInt
    | _ => cq_U h 230 p.toInt
  have gg : cq_gs ρ ct_229g.2.1 [.ref 78, .int p] := ⟨rfl, ⟨p, rfl, (cq_s_e ρ 0).symm⟩, trivial⟩
  have M0 : cq_Md ct_229g.2.2.2.1 h ρ ct_229g.2.2.1 h := by
    refine cq_Md_p ⟨fun b hb => ?_, fun _ z => (by cases z)⟩ (fun _ z => (by cases z)) (fun e he => ?_) I
    · simp only [List.mem_cons, List.not_mem_nil, or_false] at hb
      rcases hb with rfl | rfl
      · exact hp
      · exact cq_U_rng h 230 p.toInt
    · rw [List.mem_singleton.1 he]
      refine cq_mOk_tag 230 (by decide) ?_
      rw [show cq_e ρ ((0, [(1, 1)]) : cq_F) = ρ 1 from cq_s_e ρ 1, show cq_e ρ ((0, [(0, 1)]) : cq_F) = ρ 0 from cq_s_e ρ 0]
      rfl
  obtain ⟨r, h', ev, x, hx, ρ', a', Mx, hr⟩ := ok_229g d h ρ _ hd M0 gg
  rcases hr with ⟨q1, q2, q3⟩ | ⟨q1, -⟩
  · simp only [ct_229g, List.mem_cons, List.not_mem_nil, or_false] at hx
    have I' : cq_Inv none h' := by
      rcases hx with rfl | rfl
      · exact Mx.I
      · exact Mx.I
    have A' : h'.1 ≤ h.1 ∧ h'.2.1 ≤ h.2.1 := by
      rcases hx with rfl | rfl
      · exact Mx.A
      · exact Mx.A
    rcases hx with rfl | rfl
    · cases r with
      | none => exact q3.elim
      | some w =>
        obtain ⟨v, e1, e2⟩ := q3.1
        subst e1
        refine ⟨v, h', ev, Or.inl (Int32.toInt_inj.1 ?_), I', Mx.F, A'⟩
        rw [e2, show cq_e ρ' (((-1), []) : cq_F) = -1 from cq_c_e ρ' (-1)]
        decide
    · cases r with
      | none => exact q3.elim
      | some w =>
        obtain ⟨v, e1, e2⟩ := q3.1
        subst e1
        refine ⟨v, h', ev, Or.inr ?_, I', Mx.F, A'⟩
        have g4 := Mx.P.2 (0, [(1, 1)]) List.mem_cons_self
        rw [show cq_e ρ' ((0, [(1, 1)]) : cq_F) = ρ' 1 from cq_s_e ρ' 1, a' 1 (by decide)] at g4
        exact g4
  · simp only [ct_229g, List.mem_cons, List.not_mem_nil, or_false] at hx
    rcases hx with rfl | rfl <;> cases q1
/-- isAllowed's loop: what holds when it answers 1 -/
theorem hd_allow (I : cq_Inv none h) (hp : 0 ≤ p.toInt ∧ p.toInt ≤ 39) (h51 : h.2.2.2 78 51 = .int bl) (h52 : h.2.2.2 78 52 = .int bd) (h15 : h.2.2.2 78 15 = .int ck) (hk : 0 ≤ ck.toInt ∧ ck.toInt ≤ 29999) (hd : 5 ≤ d) : ∀ n k : Nat, n + k = 6 → ∃ (r : Int32) (h' : am_H), am_ev (d + 1) 228 2 [.ref 78, .int p, .int (Int32.ofNat k)] [] h (some (.int r), h') ∧ (r = 0 ∨ (r = 1 ∧ 0 ≤ cq_U h 230 p.toInt ∧ ∀ l : Nat, k ≤ l → l < 6 → hd_bit bl (Int32.ofNat l) → hd_mo h p (Int32.ofNat l) bd ck ≠ 0)) ∧ cq_Inv none h' ∧ cq_Fr [(false, 98, 0, 0), (false, 99, 0, 0)] h h' ∧ h'.1 ≤ h.1 ∧ h'.2.1 ≤ h.2.1 := by
  have O := cq_o78 I
  intro n
  induction n with
  | zero =>
    intro k hk6
    have : k = 6 := by omega
    subst this
    obtain ⟨r, h', ev, hr, I', F', A'⟩ := hd_229 I hp hd
    have pre : ∀ x, am_ev (d + 1) 228 50 [.ref 78, .int p, .int (Int32.ofNat 6)] [.int r] h' x → am_ev (d + 1) 228 2 [.ref 78, .int p, .int (Int32.ofNat 6)] [] h x := fun x q => by
      refine am_ev.step rfl rfl ?_
      refine am_ev.step rfl rfl ?_
      refine am_ev.step (pc' := 45) (ls' := [.ref 78, .int p, .int (Int32.ofNat 6)]) (st' := []) (h' := h) rfl rfl ?_
      refine am_ev.step rfl rfl ?_
      refine am_ev.step rfl rfl ?_
      exact hd_cv 229 (as := [.ref 78, .int p]) (rr := []) rfl (Or.inr (Or.inl ⟨_, rfl⟩)) rfl (by decide) rfl rfl (by decide) O (Nat.le_of_ble_eq_true rfl) ev q
    by_cases e : r = -1
    · refine ⟨0, h', pre _ ?_, Or.inl rfl, I', F', A'⟩
      refine am_ev.step rfl rfl ?_
      refine am_ev.step (pc' := 58) (ls' := [.ref 78, .int p, .int (Int32.ofNat 6)]) (st' := []) (h' := h') rfl (if_pos e) ?_
      refine am_ev.step rfl rfl ?_
      exact am_ev.reti rfl rfl rfl
    · refine ⟨1, h', pre _ ?_, Or.inr ⟨rfl, hr.resolve_left e, fun l h1 h2 => by omega⟩, I', F', A'⟩
      refine am_ev.step rfl rfl ?_
      refine am_ev.step (pc' := 54) (ls' := [.ref 78, .int p, .int (Int32.ofNat 6)]) (st' := []) (h' := h') rfl (if_neg e) ?_
      refine am_ev.step rfl rfl ?_
      refine am_ev.step rfl rfl ?_
      exact am_ev.reti rfl rfl rfl
  | succ n ih =>
    intro k hk6
    obtain ⟨f1, f2, f3, f4⟩ := hd_k6 (show k < 6 by omega)
    obtain ⟨r, h', ev, hr, K⟩ := ih (k + 1) (by omega)
    have back : am_ev (d + 1) 228 39 [.ref 78, .int p, .int (Int32.ofNat k)] [] h (some (.int r), h') := by
      refine am_ev.step (pc' := 42) (ls' := [.ref 78, .int p, .int (Int32.ofNat (k + 1))]) (st' := []) (h' := h) rfl (by rw [← f2]; rfl) ?_
      exact am_ev.step rfl rfl ev
    have go : ∀ x, (hd_bit bl (Int32.ofNat k) → am_ev (d + 1) 228 20 [.ref 78, .int p, .int (Int32.ofNat k)] [] h x) → (¬ hd_bit bl (Int32.ofNat k) → am_ev (d + 1) 228 39 [.ref 78, .int p, .int (Int32.ofNat k)] [] h x) → am_ev (d + 1) 228 2 [.ref 78, .int p, .int (Int32.ofNat k)] [] h x := fun x g1 g2 => by
      refine am_ev.step rfl rfl ?_
      refine am_ev.step rfl rfl ?_
      refine am_ev.step (pc' := 8) (ls' := [.ref 78, .int p, .int (Int32.ofNat k)]) (st' := []) (h' := h) rfl (if_neg f1) ?_
      refine am_ev.step rfl rfl ?_
      refine am_ev.step rfl (hd_gf O h51) ?_
      refine am_ev.step rfl rfl ?_
      refine am_ev.step rfl rfl ?_
      refine am_ev.step rfl rfl ?_
      refine am_ev.step rfl rfl ?_
      refine am_ev.step rfl rfl ?_
      by_cases hb : hd_bit bl (Int32.ofNat k)
      · exact am_ev.step (pc' := 20) (ls' := [.ref 78, .int p, .int (Int32.ofNat k)]) (st' := []) (h' := h) rfl (if_pos hb) (g1 hb)
      · exact am_ev.step (pc' := 39) (ls' := [.ref 78, .int p, .int (Int32.ofNat k)]) (st' := []) (h' := h) rfl (if_neg hb) (g2 hb)
    obtain ⟨w, evw, mo, hw⟩ := hd_220 (bd := bd) (d := d) I hp ⟨f3, f4⟩ hk (by omega)
    have mid : ∀ x, (w = 0 → am_ev (d + 1) 228 37 [.ref 78, .int p, .int (Int32.ofNat k)] [] h x) → (w ≠ 0 → am_ev (d + 1) 228 39 [.ref 78, .int p, .int (Int32.ofNat k)] [] h x) → am_ev (d + 1) 228 20 [.ref 78, .int p, .int (Int32.ofNat k)] [] h x := fun x g1 g2 => by
      refine am_ev.step rfl rfl ?_
      refine am_ev.step rfl rfl ?_
      refine am_ev.step rfl rfl ?_
      refine am_ev.step rfl rfl ?_
      refine am_ev.step rfl (hd_gf O h52) ?_
      refine am_ev.step rfl rfl ?_
      refine am_ev.step rfl (hd_gf O h15) ?_
      refine hd_cv 220 (as := [.ref 78, .int p, .int (Int32.ofNat k), .int bd, .int ck]) (rr := []) rfl (Or.inr (Or.inl ⟨_, rfl⟩)) rfl (by decide) rfl rfl (by decide) O (Nat.le_of_ble_eq_true rfl) evw ?_
      by_cases h2 : w = 0
      · exact am_ev.step (pc' := 37) (ls' := [.ref 78, .int p, .int (Int32.ofNat k)]) (st' := []) (h' := h) rfl (if_pos h2) (g1 h2)
      · exact am_ev.step (pc' := 39) (ls' := [.ref 78, .int p, .int (Int32.ofNat k)]) (st' := []) (h' := h) rfl (if_neg h2) (g2 h2)
    have more : (¬ hd_bit bl (Int32.ofNat k) ∨ w ≠ 0) → (r = 0 ∨ (r = 1 ∧ 0 ≤ cq_U h 230 p.toInt ∧ ∀ l : Nat, k ≤ l → l < 6 → hd_bit bl (Int32.ofNat l) → hd_mo h p (Int32.ofNat l) bd ck ≠ 0)) := fun z => by
      rcases hr with hr | ⟨r1, r2, r3⟩
      · exact Or.inl hr
      · refine Or.inr ⟨r1, r2, fun l l1 l2 lb => ?_⟩
        by_cases el : l = k
        · subst el
          rcases z with z | z
          · exact absurd lb z
          · rw [mo]
            intro e
            exact z (Int32.toInt_inj.1 (by rw [e]; decide))
        · exact r3 l (by omega) l2 lb
    by_cases hb : hd_bit bl (Int32.ofNat k)
    · by_cases h2 : w = 0
      · refine ⟨0, h, go _ (fun _ => mid _ (fun _ => ?_) (fun z => absurd h2 z)) (fun z => absurd hb z), Or.inl rfl, I, cq_Fr_rf, Nat.le_refl _, Nat.le_refl _⟩
        refine am_ev.step rfl rfl ?_
        exact am_ev.reti rfl rfl rfl
      · exact ⟨r, h', go _ (fun _ => mid _ (fun z => absurd z h2) (fun _ => back)) (fun z => absurd hb z), more (Or.inr h2), K⟩
    · exact ⟨r, h', go _ (fun z => absurd z hb) (fun _ => back), more (Or.inl hb), K⟩
end HDA
/-- isFree as it is asked of the heap -/
theorem hd_231 {h : am_H} {p bl bd ck : Int32} (I : cq_Inv none h) (hp : 0 ≤ p.toInt ∧ p.toInt ≤ 39) (h51 : h.2.2.2 78 51 = .int bl) (h52 : h.2.2.2 78 52 = .int bd) (h15 : h.2.2.2 78 15 = .int ck) (hk : 0 ≤ ck.toInt ∧ ck.toInt ≤ 29999) : cq_U h 231 p.toInt = 1 ∨ (cq_U h 231 p.toInt = 0 ∧ ∃ l : Nat, l < 6 ∧ hd_bit bl (Int32.ofNat l) ∧ hd_mo h p (Int32.ofNat l) bd ck ≠ 2) := by
  obtain ⟨r, ev, hr⟩ := hd_free (d := 1) I hp h51 h52 h15 hk (Nat.le_refl _) 6 0 rfl
  have ev2 : am_ev 2 231 0 (am_ent [.ref 78, .int p] (am_in 231).2.2.1) [] h (some (.int r), h) := by
    refine am_ev.step rfl rfl ?_
    exact am_ev.step rfl rfl ev
  have ha : ni_L [.ref 78, .int p] := fun v hv a ea => by
    simp only [List.mem_cons, List.not_mem_nil, or_false] at hv
    rcases hv with rfl | rfl <;> cases ea
    rfl
  have eA := ni_An_of (by decide) I ha (by decide) ev2
  have eU : cq_U h 231 p.toInt = r.toInt := by
    unfold cq_U cq_U0
    rw [show Nat.blt 231 2000 = true by decide, show Nat.blt 231 1000 = true by decide]
    simp only [cond_true]
    rw [show (am_in 231).2.1 - 1 = 1 by decide +kernel, cq_dg1 (a := p) hp.1 (by omega) rfl]
    exact eA
  rcases hr with hr | ⟨hr, k⟩
  · left
    rw [eU, hr]
    decide
  · right
    refine ⟨?_, k⟩
    rw [eU, hr]
    decide
/-- leaveAs as it is asked of the heap -/
theorem hd_222 {h : am_H} {p ck : Int32} (I : cq_Inv none h) (hp : 0 ≤ p.toInt ∧ p.toInt ≤ 39) (hk : 0 ≤ ck.toInt ∧ ck.toInt ≤ 29999) : -1 ≤ cq_U h 222 (p.toInt + 65536 * ck.toInt) := by
  let ρ : Nat → Int := fun s => match s with
    | 0 => p.toInt
    | _ => ck.toInt
  have gg : cq_gs ρ ct_222r.2.1 [.ref 78, .int p, .int ck] := ⟨rfl, ⟨p, rfl, (cq_s_e ρ 0).symm⟩, ⟨ck, rfl, (cq_s_e ρ 1).symm⟩, trivial⟩
  have M0 : cq_Md ct_222r.2.2.2.1 h ρ ct_222r.2.2.1 h := by
    refine cq_Md_p ⟨fun b hb => ?_, fun _ z => (by cases z)⟩ (fun _ z => (by cases z)) (fun _ z => (by cases z)) I
    simp only [List.mem_cons, List.not_mem_nil, or_false] at hb
    rcases hb with rfl | rfl
    · exact hp
    · exact hk
  obtain ⟨r, h', ev, x, hx, ρ', a', Mx, hr⟩ := ok_222r ct_222r.1 h ρ _ (Nat.le_refl _) M0 gg
  have hx := List.mem_singleton.1 hx
  subst hx
  have bx : (-1 : Int) ≤ ρ' 2 ∧ ρ' 2 ≤ 79 := Mx.P.1 (2, -1, 79) List.mem_cons_self
  rcases hr with ⟨q1, q2, q3⟩ | ⟨q1, -⟩
  · cases r with
    | none => exact q3.elim
    | some w =>
      obtain ⟨v, e1, e2⟩ := q3.1
      subst e1
      have e2 : v.toInt = cq_e ρ' (cq_s 2) := e2
      rw [cq_s_e] at e2
      have ha : ni_L [.ref 78, .int p, .int ck] := fun v hv a ea => by
        simp only [List.mem_cons, List.not_mem_nil, or_false] at hv
        rcases hv with rfl | rfl | rfl <;> cases ea
        rfl
      have eA := ni_An_of (by decide) I ha (by decide) ev
      have eU : cq_U h 222 (p.toInt + 65536 * ck.toInt) = v.toInt := by
        unfold cq_U cq_U0
        rw [show Nat.blt 222 2000 = true by decide, show Nat.blt 222 1000 = true by decide]
        simp only [cond_true]
        rw [show (am_in 222).2.1 - 1 = 2 by decide +kernel, cq_dg2 (a := p) (b := ck) hp.1 (by omega) hk.1 (by omega) rfl]
        exact eA
      rw [eU, e2]
      exact bx.1
  · cases q1
theorem ok_228g : cq_CT 228 ct_228g := by
  intro d h ρ as hd M g
  have I : cq_Inv none h := M.I
  obtain ⟨v0, r0, e0, g0, g1⟩ := cq_gs_cons g
  obtain ⟨v1, r1, e1, g2, g3⟩ := cq_gs_cons g1
  have e2 := cq_gs_nil g3
  subst e0 e1 e2
  have g0 : v0 = .ref 78 := g0
  obtain ⟨p, ep, hp⟩ := g2
  have hp : p.toInt = cq_e ρ (cq_s 0) := hp
  rw [cq_s_e] at hp
  subst g0 ep
  have b0 : (0 : Int) ≤ ρ 0 ∧ ρ 0 ≤ 39 := M.P.1 (0, 0, 39) List.mem_cons_self
  obtain ⟨ck, h15, k1, k2⟩ := cq_i78 I (b := 15) 0 29999 (by decide +kernel) (by decide +kernel)
  obtain ⟨bl, h51, -, -⟩ := cq_i78 I (b := 51) (-2147483648) 2147483647 (by decide +kernel) (by decide +kernel)
  obtain ⟨bd, h52, -, -⟩ := cq_i78 I (b := 52) (-2147483648) 2147483647 (by decide +kernel) (by decide +kernel)
  have t15 := M.T _ List.mem_cons_self
  have t15 : ∃ x : Int32, h.2.2.2 78 15 = .int x ∧ x.toInt = cq_e ρ (cq_s 1) := t15
  obtain ⟨c2, ec2, hc2⟩ := t15
  rw [h15] at ec2
  have ec2 := Value.int.inj ec2
  subst ec2
  rw [cq_s_e] at hc2
  have m1 := cq_mOk_un (M.M _ List.mem_cons_self) 230 (by decide)
  have m2 := cq_mOk_un (M.M _ (List.mem_cons_of_mem _ List.mem_cons_self)) 231 (by decide)
  have m3 := cq_mOk_un (M.M _ (List.mem_cons_of_mem _ (List.mem_cons_of_mem _ List.mem_cons_self))) 222 (by decide)
  rw [show cq_e ρ ((0, [(2, 1)]) : cq_F) = ρ 2 from cq_s_e ρ 2, show cq_e ρ ((0, [(0, 1)]) : cq_F) = ρ 0 from cq_s_e ρ 0, ← hp] at m1
  rw [show cq_e ρ ((0, [(3, 1)]) : cq_F) = ρ 3 from cq_s_e ρ 3, show cq_e ρ ((0, [(0, 1)]) : cq_F) = ρ 0 from cq_s_e ρ 0, ← hp] at m2
  have e3 : cq_e ρ ((0, [(0, 1), (1, 65536)]) : cq_F) = p.toInt + 65536 * ck.toInt := by
    simp only [cq_e, cq_eT]
    omega
  rw [show cq_e ρ ((0, [(4, 1)]) : cq_F) = ρ 4 from cq_s_e ρ 4, e3] at m3
  cases d with
  | zero => exact absurd hd (by decide)
  | succ d =>
    have hd5 : 5 ≤ d := Nat.le_of_succ_le_succ hd
    obtain ⟨r, h', ev, hr, I', F', A1, A2⟩ := hd_allow (p := p) I ⟨by omega, by omega⟩ h51 h52 h15 ⟨k1, k2⟩ hd5 6 0 rfl
    have ev2 : am_ev (d + 1) 228 0 (am_ent [.ref 78, .int p] (am_in 228).2.2.1) [] h (some (.int r), h') := by
      refine am_ev.step rfl rfl ?_
      exact am_ev.step rfl rfl ev
    rcases hr with hr | ⟨hr, r1, r2⟩
    · subst hr
      exact ⟨_, h', ev2, _, List.mem_cons_self, ρ, cq_ag.rf, cq_Md_s ⟨fun _ z => (by cases z), fun _ z => (by cases z)⟩ I' F' ⟨A1, A2⟩, Or.inl ⟨rfl, rfl, ⟨0, rfl, by rw [show cq_e ρ ((0, []) : cq_F) = 0 from cq_c_e ρ 0]; decide⟩, trivial⟩⟩
    · subst hr
      refine ⟨_, h', ev2, _, List.mem_cons_of_mem _ List.mem_cons_self, ρ, cq_ag.rf, cq_Md_s ⟨fun _ z => (by cases z), fun gg hg => ?_⟩ I' F' ⟨A1, A2⟩, Or.inl ⟨rfl, rfl, ⟨1, rfl, by rw [show cq_e ρ ((1, []) : cq_F) = 1 from cq_c_e ρ 1]; decide⟩, trivial⟩⟩
      simp only [List.mem_cons, List.not_mem_nil, or_false] at hg
      rcases hg with rfl | rfl
      · rw [show cq_e ρ ((0, [(2, 1)]) : cq_F) = ρ 2 from cq_s_e ρ 2, m1]
        exact r1
      · have e4 : cq_e ρ ((0, [(3, 1), (4, 1)]) : cq_F) = ρ 3 + ρ 4 := by
          simp only [cq_e, cq_eT]
          omega
        rw [e4, m2, m3]
        have l1 := hd_222 (p := p) (ck := ck) I ⟨by omega, by omega⟩ ⟨k1, k2⟩
        rcases hd_231 (p := p) I ⟨by omega, by omega⟩ h51 h52 h15 ⟨k1, k2⟩ with f | ⟨f, l, l6, lb, lm⟩
        · omega
        · have n0 := r2 l (Nat.zero_le _) l6 lb
          obtain ⟨-, -, f3, f4⟩ := hd_k6 l6
          obtain ⟨w, -, mo, hw⟩ := hd_220 (p := p) (l := Int32.ofNat l) (bd := bd) (ck := ck) (d := 1) I ⟨by omega, by omega⟩ ⟨f3, f4⟩ ⟨k1, k2⟩ (Nat.le_refl _)
          rw [mo] at n0 lm
          rcases hw with z | z | ⟨z, z2⟩
          · rw [z] at n0; exact absurd (by decide) n0
          · rw [z] at lm; exact absurd (by decide) lm
          · omega
