/-! BY HAND, 3: isFree and isAllowed: which poems may be printed -/
theorem hd_gf {k l b w pc : Nat} {t : Int} {ls r : List Value} {h : am_H} {v : Value} (O : am_isO h 78 13 = true) (hv : h.2.2.2 78 b = v) : am_st (.getfield k, l, t, 13, b, w) pc ls (.ref 78 :: r) h = some (pc + 3, ls, v :: r, h) := by
  dsimp only [am_st]
  rw [O, hv]
  rfl
theorem hd_cv {d y pc : Nat} {ls : List Value} {h : am_H} {x : Option Value × am_H} {e : am_E} {as rr : List Value} {v : Int32} {h2 : am_H} {st : List Value} (z : Nat) (hc : am_at y pc e) (hi : am_isC e.1) (ez : e.2.2.2.1 = z) (nz : (Nat.blt 0 z && Nat.blt z 264 && !Nat.beq z 10 && !Nat.beq z 57) = true) (hst : st = as.reverse ++ rr) (hlen : as.length = (am_in z).2.1) (hcs : am_cs rr ≤ 8) (hrcv : am_rcv z as h = true) (hw : (am_wid as).length ≤ (am_in z).2.2.1) (q1 : am_ev d z 0 (am_ent as (am_in z).2.2.1) [] h (some (.int v), h2)) (q2 : am_ev (d + 1) y (pc + 3) ls (.int v :: rr) h2 x) : am_ev (d + 1) y pc ls st h x := by
  subst ez
  have n1 := (Bool.and_eq_true _ _ ▸ nz)
  have n2 := (Bool.and_eq_true _ _ ▸ n1.1)
  have n3 := (Bool.and_eq_true _ _ ▸ n2.1)
  refine am_ev.call hc hi ⟨Nat.le_of_ble_eq_true n3.1, Nat.le_of_ble_eq_true n3.2, fun z => ?_, fun z => ?_⟩ hst hlen hcs hrcv hw q1 rfl q2
  · have := n2.2
    rw [z] at this
    cases this
  · have := n1.2
    rw [z] at this
    cases this
/-- a land's bit -/
def hd_bit (bl l : Int32) : Prop := (bl >>> (l &&& 31)) &&& 1 = 1
noncomputable def hd_mo (h : am_H) (p l bd ck : Int32) : Int := cq_An h 220 [.ref 78, .int p, .int l, .int bd, .int ck]
/-- mayOf: what it answers, and when it is 1 -/
theorem hd_220 {h : am_H} (I : cq_Inv none h) {p l bd ck : Int32} (hp : 0 ≤ p.toInt ∧ p.toInt ≤ 39) (hl : 0 ≤ l.toInt ∧ l.toInt ≤ 5) (hk : 0 ≤ ck.toInt ∧ ck.toInt ≤ 29999) {d : Nat} (hd : 1 ≤ d) : ∃ r : Int32, am_ev d 220 0 (am_ent [.ref 78, .int p, .int l, .int bd, .int ck] (am_in 220).2.2.1) [] h (some (.int r), h) ∧ hd_mo h p l bd ck = r.toInt ∧ (r = 0 ∨ r = 2 ∨ (r = 1 ∧ 0 ≤ cq_U h 222 (p.toInt + 65536 * ck.toInt))) := by
  let ρ : Nat → Int := fun s => match s with
    | 0 => p.toInt
    | 1 => l.toInt
    | 2 => bd.toInt
    | 3 => ck.toInt
    | _ => cq_U h 222 (p.toInt + 65536 * ck.toInt)
  have gg : cq_gs ρ ct_220r.2.1 [.ref 78, .int p, .int l, .int bd, .int ck] := ⟨rfl, ⟨p, rfl, (cq_s_e ρ 0).symm⟩, ⟨l, rfl, (cq_s_e ρ 1).symm⟩, ⟨bd, rfl, (cq_s_e ρ 2).symm⟩, ⟨ck, rfl, (cq_s_e ρ 3).symm⟩, trivial⟩
  have u := cq_U_rng h 222 (p.toInt + 65536 * ck.toInt)
  have z1 := bd.le_toInt
  have z2 := bd.toInt_lt
  have M0 : cq_Md ct_220r.2.2.2.1 h ρ ct_220r.2.2.1 h := by
    refine cq_Md_p ⟨fun b hb => ?_, fun _ z => (by cases z)⟩ (fun _ z => (by cases z)) (fun e he => ?_) I
    · simp only [List.mem_cons, List.not_mem_nil, or_false] at hb
      rcases hb with rfl | rfl | rfl | rfl | rfl
      · exact hp
      · exact hl
      · exact ⟨by show -2147483648 ≤ bd.toInt; omega, by show bd.toInt ≤ 2147483647; omega⟩
      · exact hk
      · exact u
    · rw [List.mem_singleton.1 he]
      refine cq_mOk_tag 222 (by decide) ?_
      rw [show cq_e ρ ((0, [(4, 1)]) : cq_F) = ρ 4 from cq_s_e ρ 4]
      have : cq_e ρ ((0, [(0, 1), (3, 65536)]) : cq_F) = p.toInt + 65536 * ck.toInt := by
        simp only [cq_e, cq_eT]
        show 0 + (1 * p.toInt + (65536 * ck.toInt + 0)) = _
        omega
      rw [this]
      rfl
  obtain ⟨r, h', ev, x, hx, ρ', a', Mx, hr⟩ := ok_220r 1 h ρ _ (Nat.le_refl _) M0 gg
  have ha : ni_L [.ref 78, .int p, .int l, .int bd, .int ck] := fun v hv a ea => by
    simp only [List.mem_cons, List.not_mem_nil, or_false] at hv
    rcases hv with rfl | rfl | rfl | rfl | rfl <;> cases ea
    rfl
  have key : ∀ c : Int, cq_gs ρ' [(1, (c, []), 0)] r.toList → ∃ v : Int32, r = some (.int v) ∧ v.toInt = c := fun c g => by
    cases r with
    | none => exact g.elim
    | some w =>
      obtain ⟨v, e1, e2⟩ := g.1
      exact ⟨v, by rw [e1], by rw [e2]; exact cq_c_e ρ' c⟩
  have fin : ∀ v : Int32, r = some (.int v) → (v = 0 ∨ v = 2 ∨ (v = 1 ∧ 0 ≤ cq_U h 222 (p.toInt + 65536 * ck.toInt))) → ∃ r : Int32, am_ev d 220 0 (am_ent [.ref 78, .int p, .int l, .int bd, .int ck] (am_in 220).2.2.1) [] h (some (.int r), h) ∧ hd_mo h p l bd ck = r.toInt ∧ (r = 0 ∨ r = 2 ∨ (r = 1 ∧ 0 ≤ cq_U h 222 (p.toInt + 65536 * ck.toInt))) := fun v er hv => by
    subst er
    obtain ⟨e1, ev2⟩ := ni_ev (by decide) I ha ev ni_R.rf hd
    exact ⟨v, ev2, ni_An_of (by decide) I ha (by decide) ev, hv⟩
  rcases hr with ⟨q1, q2, q3⟩ | ⟨q1, -⟩
  · simp only [ct_220r, List.mem_cons, List.not_mem_nil, or_false] at hx
    rcases hx with rfl | rfl | rfl
    · obtain ⟨v, er, hv⟩ := key 0 q3
      exact fin v er (Or.inl (Int32.toInt_inj.1 (by rw [hv]; decide)))
    · obtain ⟨v, er, hv⟩ := key 2 q3
      exact fin v er (Or.inr (Or.inl (Int32.toInt_inj.1 (by rw [hv]; decide))))
    · obtain ⟨v, er, hv⟩ := key 1 q3
      refine fin v er (Or.inr (Or.inr ⟨Int32.toInt_inj.1 (by rw [hv]; decide), ?_⟩))
      have g4 := Mx.P.2 (0, [(4, 1)]) List.mem_cons_self
      rw [show cq_e ρ' ((0, [(4, 1)]) : cq_F) = ρ' 4 from cq_s_e ρ' 4, a' 4 (by decide)] at g4
      exact g4
  · simp only [ct_220r, List.mem_cons, List.not_mem_nil, or_false] at hx
    rcases hx with rfl | rfl | rfl <;> cases q1
theorem hd_k6 {k : Nat} (hk : k < 6) : ¬ ((6 : Int32) ≤ Int32.ofNat k) ∧ Int32.ofNat k + Int32.ofInt 1 = Int32.ofNat (k + 1) ∧ 0 ≤ (Int32.ofNat k).toInt ∧ (Int32.ofNat k).toInt ≤ 5 := by
  rcases (show k = 0 ∨ k = 1 ∨ k = 2 ∨ k = 3 ∨ k = 4 ∨ k = 5 by omega) with z | z | z | z | z | z <;> subst z <;> decide
section HDF
variable {h : am_H} {p bl bd ck : Int32} {d : Nat}
/-- isFree's loop: what it answers when it isn't free -/
theorem hd_free (I : cq_Inv none h) (hp : 0 ≤ p.toInt ∧ p.toInt ≤ 39) (h51 : h.2.2.2 78 51 = .int bl) (h52 : h.2.2.2 78 52 = .int bd) (h15 : h.2.2.2 78 15 = .int ck) (hk : 0 ≤ ck.toInt ∧ ck.toInt ≤ 29999) (hd : 1 ≤ d) : ∀ n k : Nat, n + k = 6 → ∃ r : Int32, am_ev (d + 1) 231 2 [.ref 78, .int p, .int (Int32.ofNat k)] [] h (some (.int r), h) ∧ (r = 1 ∨ (r = 0 ∧ ∃ l : Nat, l < 6 ∧ hd_bit bl (Int32.ofNat l) ∧ hd_mo h p (Int32.ofNat l) bd ck ≠ 2)) := by
  have O := cq_o78 I
  intro n
  induction n with
  | zero =>
    intro k hk6
    have : k = 6 := by omega
    subst this
    refine ⟨1, ?_, Or.inl rfl⟩
    refine am_ev.step rfl rfl ?_
    refine am_ev.step rfl rfl ?_
    refine am_ev.step (pc' := 46) (ls' := [.ref 78, .int p, .int (Int32.ofNat 6)]) (st' := []) (h' := h) rfl rfl ?_
    refine am_ev.step rfl rfl ?_
    exact am_ev.reti rfl rfl rfl
  | succ n ih =>
    intro k hk6
    obtain ⟨f1, f2, f3, f4⟩ := hd_k6 (show k < 6 by omega)
    obtain ⟨r, ev, hr⟩ := ih (k + 1) (by omega)
    have back : am_ev (d + 1) 231 40 [.ref 78, .int p, .int (Int32.ofNat k)] [] h (some (.int r), h) := by
      refine am_ev.step (pc' := 43) (ls' := [.ref 78, .int p, .int (Int32.ofNat (k + 1))]) (st' := []) (h' := h) rfl (by rw [← f2]; rfl) ?_
      exact am_ev.step rfl rfl ev
    have go : ∀ x, (hd_bit bl (Int32.ofNat k) → am_ev (d + 1) 231 20 [.ref 78, .int p, .int (Int32.ofNat k)] [] h x) → (¬ hd_bit bl (Int32.ofNat k) → am_ev (d + 1) 231 40 [.ref 78, .int p, .int (Int32.ofNat k)] [] h x) → am_ev (d + 1) 231 2 [.ref 78, .int p, .int (Int32.ofNat k)] [] h x := fun x g1 g2 => by
      refine am_ev.step rfl rfl ?_
      refine am_ev.step rfl rfl ?_
      refine am_ev.step (pc' := 8) (ls' := [.ref 78, .int p, .int (Int32.ofNat k)]) (st' := []) (h' := h) rfl (if_neg f1) ?_
      refine am_ev.step rfl rfl ?_
      refine am_ev.step rfl (hd_gf O h51) ?_
      refine am_ev.step rfl rfl ?_
      refine am_ev.step rfl rfl ?_
      refine am_ev.step rfl rfl ?_
      refine am_ev.step rfl rfl ?_
      refine am_ev.step rfl rfl ?_
      by_cases hb : hd_bit bl (Int32.ofNat k)
      · exact am_ev.step (pc' := 20) (ls' := [.ref 78, .int p, .int (Int32.ofNat k)]) (st' := []) (h' := h) rfl (if_pos hb) (g1 hb)
      · exact am_ev.step (pc' := 40) (ls' := [.ref 78, .int p, .int (Int32.ofNat k)]) (st' := []) (h' := h) rfl (if_neg hb) (g2 hb)
    obtain ⟨w, evw, mo, hw⟩ := hd_220 (bd := bd) I hp ⟨f3, f4⟩ hk hd
    have mid : ∀ x, (w = 2 → am_ev (d + 1) 231 40 [.ref 78, .int p, .int (Int32.ofNat k)] [] h x) → (w ≠ 2 → am_ev (d + 1) 231 38 [.ref 78, .int p, .int (Int32.ofNat k)] [] h x) → am_ev (d + 1) 231 20 [.ref 78, .int p, .int (Int32.ofNat k)] [] h x := fun x g1 g2 => by
      refine am_ev.step rfl rfl ?_
      refine am_ev.step rfl rfl ?_
      refine am_ev.step rfl rfl ?_
      refine am_ev.step rfl rfl ?_
      refine am_ev.step rfl (hd_gf O h52) ?_
      refine am_ev.step rfl rfl ?_
      refine am_ev.step rfl (hd_gf O h15) ?_
      refine hd_cv 220 (as := [.ref 78, .int p, .int (Int32.ofNat k), .int bd, .int ck]) (rr := []) rfl (Or.inr (Or.inl ⟨_, rfl⟩)) rfl (by decide) rfl rfl (by decide) O (Nat.le_of_ble_eq_true rfl) evw ?_
      refine am_ev.step rfl rfl ?_
      by_cases h2 : w = 2
      · exact am_ev.step (pc' := 40) (ls' := [.ref 78, .int p, .int (Int32.ofNat k)]) (st' := []) (h' := h) rfl (if_pos h2) (g1 h2)
      · exact am_ev.step (pc' := 38) (ls' := [.ref 78, .int p, .int (Int32.ofNat k)]) (st' := []) (h' := h) rfl (if_neg h2) (g2 h2)
    by_cases hb : hd_bit bl (Int32.ofNat k)
    · by_cases h2 : w = 2
      · exact ⟨r, go _ (fun _ => mid _ (fun _ => back) (fun z => absurd h2 z)) (fun z => absurd hb z), hr⟩
      · refine ⟨0, go _ (fun _ => mid _ (fun z => absurd z h2) (fun _ => ?_)) (fun z => absurd hb z), Or.inr ⟨rfl, k, by omega, hb, fun e => h2 ?_⟩⟩
        · refine am_ev.step rfl rfl ?_
          exact am_ev.reti rfl rfl rfl
        · rw [mo] at e
          exact Int32.toInt_inj.1 (by rw [e]; decide)
    · exact ⟨r, go _ (fun z => absurd z hb) (fun _ => back), hr⟩
end HDF
