/-! WORTH OF A SET -/
def wkM (n : Nat) : Int32 := (Int32.ofInt 1 <<< (Int32.ofInt (n : Int) &&& 31)) - Int32.ofInt 1
def wkL (n : Nat) : Int64 := ((Int64.ofNat 1) <<< ((Int32.ofInt (n : Int)).toInt64 &&& 63)) - (Int64.ofNat 1)
theorem wkM_b : ∀ n, n < 15 → ∀ i, i < 32 → bt (wkM n) i = decide (i < n) := by decide +kernel
theorem wkL_b : ∀ n, n < 15 → (wkL n).toInt = ((2 ^ n : Nat) : Int) - 1 := by decide +kernel
theorem wk_bits {S0 : Int32} {n : Nat} (hn : n ≤ 14) : (∀ i, i < 32 → bt S0 i = true → i < n) ↔ (0 ≤ S0.toInt ∧ S0.toInt ≤ ((2 ^ n : Nat) : Int) - 1) := by
  have e : S0.toInt = S0.toBitVec.toInt := rfl
  have L := S0.toBitVec.isLt
  have p14 : 2 ^ n ≤ 2 ^ 14 := Nat.pow_le_pow_right (by decide) hn
  have e14 : (2 : Nat) ^ 14 = 16384 := by decide
  have e32 : (2 : Nat) ^ 32 = 4294967296 := by decide
  rw [e14] at p14
  refine ⟨fun h => ?_, fun h i hi z => ?_⟩
  · have lt : S0.toBitVec.toNat < 2 ^ n := Nat.lt_pow_two_of_testBit _ (fun i hi => by
      cases z : S0.toBitVec.toNat.testBit i with
      | false => rfl
      | true =>
        by_cases c : i < 32
        · have := h i c z
          omega
        · have w : S0.toBitVec.toNat.testBit i = false := Nat.testBit_lt_two_pow (Nat.lt_of_lt_of_le L (Nat.pow_le_pow_right (by decide) (by omega)))
          rw [w] at z
          cases z)
    rw [e, BitVec.toInt_eq_toNat_cond]
    generalize 2 ^ n = N at lt p14 ⊢
    split <;> omega
  · rw [e, BitVec.toInt_eq_toNat_cond] at h
    have lt : S0.toBitVec.toNat < 2 ^ n := by
      generalize 2 ^ n = N at h p14 ⊢
      split at h <;> omega
    refine Nat.lt_of_not_le fun ge => ?_
    have w : S0.toBitVec.toNat.testBit i = false := Nat.testBit_lt_two_pow (Nat.lt_of_lt_of_le lt (Nat.pow_le_pow_right (by decide) ge))
    have z : S0.toBitVec.toNat.testBit i = true := z
    rw [w] at z
    cases z
theorem wk_mask {S0 : Int32} {n : Nat} (hn : n ≤ 14) : (S0 &&& (wkM n ^^^ Int32.ofInt (-1))) = 0 ↔ (0 ≤ S0.toInt ∧ S0.toInt ≤ ((2 ^ n : Nat) : Int) - 1) := by
  rw [mk_0, ← wk_bits hn]
  refine ⟨fun h i hi z => ?_, fun h i hi z => ?_⟩
  · have w := h i hi z
    rw [wkM_b n (by omega) i hi] at w
    exact of_decide_eq_true w
  · rw [wkM_b n (by omega) i hi]
    exact decide_eq_true (h i hi z)
/-- the run over a set's candidates -/
def wkR (al : Nat → Bool) (po : Nat → Nat) (wo fe pg : Nat → Int) (mo : Int) (S0 : Int32) : Nat → Nat → (Nat → Int) → Int → Int → Int → Option (Int × Int × Int)
  | 0, _, _, w, f, p => some (w, f, p)
  | m + 1, c, T, w, f, p => if bt S0 c = true then (if al c = true ∧ T (po c) < mo then wkR al po wo fe pg mo S0 m (c + 1) (fun j => if j = po c then T j + 1 else T j) (w + wo c) (f + fe c) (p + pg c) else none) else wkR al po wo fe pg mo S0 m (c + 1) T w f p
def wkZ (P F : Int) : Option (Int × Int × Int) → Int
  | none => -1
  | some r => if r.2.2 ≤ P ∧ r.2.1 ≤ F then r.1 else -1
section WKR
variable {al : Nat → Bool} {po : Nat → Nat} {wo fe pg : Nat → Int} {mo : Int} {S0 : Int32} {n : Nat}
theorem wkR_mono (H : ∀ c, c < n → al c = true → 0 ≤ fe c ∧ 0 ≤ pg c) : ∀ (m c : Nat) (T : Nat → Int) (w f p : Int), c + m = n → ∀ r, wkR al po wo fe pg mo S0 m c T w f p = some r → f ≤ r.2.1 ∧ p ≤ r.2.2 := fun m => by
  induction m with
  | zero =>
    intro c T w f p hc r e
    cases e
    exact ⟨Int.le_refl _, Int.le_refl _⟩
  | succ m ih =>
    intro c T w f p hc r e
    unfold wkR at e
    by_cases b : bt S0 c = true
    · rw [if_pos b] at e
      by_cases k : al c = true ∧ T (po c) < mo
      · rw [if_pos k] at e
        have z := ih _ _ _ _ _ (by omega) r e
        have y := H c (by omega) k.1
        omega
      · rw [if_neg k] at e
        cases e
    · rw [if_neg b] at e
      exact ih _ _ _ _ _ (by omega) r e
theorem wkZ_out {P F : Int} (H : ∀ c, c < n → al c = true → 0 ≤ fe c ∧ 0 ≤ pg c) {m c : Nat} {T : Nat → Int} {w f p : Int} (hc : c + m = n) (o : ¬ (p ≤ P ∧ f ≤ F)) : wkZ P F (wkR al po wo fe pg mo S0 m c T w f p) = -1 := by
  cases e : wkR al po wo fe pg mo S0 m c T w f p with
  | none => rfl
  | some r =>
    have z := wkR_mono H m c T w f p hc r e
    exact if_neg (by omega)
end WKR
section WOP
variable {d n c i q po k s : Nat} {h g G : am_H} {V1 V3 V4 V5 V6 M P F T f p w fe pg wo mo A : Int} {S0 : Int32} {x4 x9 : Value}
theorem wf5_e (hi : i = 20) : am_ev d 5 5 [.ref 64, iv 0, iv ((i : Int)), iv 20] [] g (none, g) := by
  refine am_ev.step (pc' := 6) rfl rfl ?_
  refine am_ev.step (pc' := 7) rfl rfl ?_
  refine fx_c_ge_T (pT := 20) rfl (by omega) (by omega) rfl (by omega) ?_
  exact am_ev.retv rfl rfl
theorem wf5_s (S : fS g) (hi : i < 20) {x : Option Value × am_H} (q9 : am_ev d 5 5 [.ref 64, iv 0, iv ((i + 1 : Nat) : Int), iv 20] [] (am_put g 64 i (iv 0)) x) : am_ev d 5 5 [.ref 64, iv 0, iv ((i : Int)), iv 20] [] g x := by
  refine am_ev.step (pc' := 6) rfl rfl ?_
  refine am_ev.step (pc' := 7) rfl rfl ?_
  refine fx_c_ge_F (pF := 10) rfl (by omega) (by omega) rfl (by omega) ?_
  refine am_ev.step (pc' := 11) rfl rfl ?_
  refine am_ev.step (pc' := 12) rfl rfl ?_
  refine am_ev.step (pc' := 13) rfl rfl ?_
  refine ax_iastore (p' := 14) rfl rfl (S.wr (k := i) rfl rfl rfl rfl (by omega)) ?_
  refine fx_inc (p' := 17) (e := ((i : Int) + 1)) (ls' := [.ref 64, iv 0, iv ((i : Int) + 1), iv 20]) rfl rfl rfl (by omega) rfl ?_
  refine am_ev.step (pc' := 5) rfl rfl ?_
  exact (rr_n ▸ q9)
theorem wf5_0 (S : fS g) {x : Option Value × am_H} (q9 : am_ev d 5 5 [.ref 64, iv 0, iv 0, iv 20] [] g x) : am_ev d 5 0 (am_ent [.ref 64, iv 0] 4) [] g x := by
  show am_ev d 5 0 [.ref 64, iv 0, am_ph, am_ph] [] g _
  refine am_ev.step (pc' := 1) rfl rfl ?_
  refine am_ev.step (pc' := 2) (ls' := [.ref 64, iv 0, iv 0, am_ph]) rfl rfl ?_
  refine am_ev.step (pc' := 3) rfl rfl ?_
  refine fx_alen (p' := 4) (n := 20) rfl rfl (S.al rfl rfl) ?_
  refine am_ev.step (pc' := 5) (ls' := [.ref 64, iv 0, iv 0, iv 20]) rfl rfl ?_
  exact q9
theorem wf_5 (S : fS g) : ∃ G, am_ev d 5 0 (am_ent [.ref 64, iv 0] 4) [] g (none, G) ∧ fS G ∧ G.1 = g.1 ∧ G.2.2.1 = g.2.2.1 ∧ (∀ a j, a ≠ 64 → G.2.2.2 a j = g.2.2.2 a j) ∧ ∀ j, j < 20 → G.2.2.2 64 j = iv 0 := by
  have go : ∀ (m i : Nat) (g : am_H), i + m = 20 → fS g → (∀ j, j < i → g.2.2.2 64 j = iv 0) → ∃ G, am_ev d 5 5 [.ref 64, iv 0, iv (i : Int), iv 20] [] g (none, G) ∧ fS G ∧ G.1 = g.1 ∧ G.2.2.1 = g.2.2.1 ∧ (∀ a j, a ≠ 64 → G.2.2.2 a j = g.2.2.2 a j) ∧ ∀ j, j < 20 → G.2.2.2 64 j = iv 0 := fun m => by
    induction m with
    | zero => intro i g hi S X; exact ⟨g, wf5_e (by omega), S, rfl, rfl, fun _ _ _ => rfl, fun j hj => X j (by omega)⟩
    | succ m ih =>
      intro i g hi S X
      obtain ⟨G, r1, r2, r3, r4, r5, r6⟩ := ih (i + 1) (am_put g 64 i (iv 0)) (by omega) (S.pa rfl) (fun j hj => by
        by_cases e : j = i
        · rw [e]
          exact ax_put_s _ _ _
        · exact ax_put_o (Or.inr e) (X j (by omega)))
      exact ⟨G, wf5_s S (by omega) r1, r2, r3, r4, fun a j n => (r5 a j n).trans (ax_put_o (Or.inl n) rfl), r6⟩
  obtain ⟨G, r1, r2⟩ := go 20 0 g (by omega) S (fun j hj => absurd hj (Nat.not_lt_zero j))
  exact ⟨G, wf5_0 S r1, r2⟩
theorem wo_110 (S : fS g) (v441 : g.2.2.2 44 1 = iv V1) (v443 : g.2.2.2 44 3 = iv V3) (v444 : g.2.2.2 44 4 = iv V4) (v445 : g.2.2.2 44 5 = iv V5) (v446 : g.2.2.2 44 6 = iv V6) (hm : V4 * V1 = M) (bV : 2 ≤ V1 ∧ V1 ≤ 32 ∧ 0 ≤ V3 ∧ V3 ≤ 30 ∧ 1 ≤ V4 ∧ V4 ≤ 40 ∧ 0 ≤ V5 ∧ V5 ≤ 99999 ∧ 1 ≤ V6 ∧ V6 ≤ 9) (bM : 0 ≤ M ∧ M ≤ 2000) (hn : n ≤ 14) (H5 : am_ev d 5 0 (am_ent [.ref 64, iv 0] 4) [] (am_put (am_put (am_put (am_put (am_put g 63 3 (.ref 74)) 63 4 (iv ((n : Int)))) 63 5 (iv (V6))) 63 6 (iv (M - V3))) 63 7 (iv (V5))) (none, G)) (SG : fS G) : am_ev (d + 1) 110 0 (am_ent [.ref 63, .ref 74, iv n, .ref 43] 4) [] g (none, G) := by
  show am_ev (d + 1) 110 0 [.ref 63, .ref 74, iv n, .ref 43] [] g _
  refine am_ev.step (pc' := 1) rfl rfl ?_
  refine am_ev.step (pc' := 2) rfl rfl ?_
  refine ax_pf (p' := 5) rfl rfl (S.ob rfl) rfl ?_
  refine am_ev.step (pc' := 6) rfl rfl ?_
  refine am_ev.step (pc' := 7) rfl rfl ?_
  refine am_ev.step (pc' := 8) rfl rfl ?_
  refine fx_alen (p' := 9) (n := 14) rfl rfl ((S.po rfl rfl).al rfl rfl) ?_
  refine fx_bip (p' := 11) rfl rfl rfl ?_
  refine fx_mn (p' := 14) (e := 14) rfl (Or.inl ⟨_, rfl⟩) rfl rfl rfl rfl (by omega) (by omega) (fun _ => by omega) (fun _ => by omega) ?_
  refine fx_mn (p' := 17) (e := ((n : Int))) rfl (Or.inl ⟨_, rfl⟩) rfl rfl rfl rfl (by omega) (by omega) (fun _ => by omega) (fun _ => by omega) ?_
  refine ax_pf (p' := 20) rfl rfl (fO (S.ob rfl)) rfl ?_
  refine am_ev.step (pc' := 21) rfl rfl ?_
  refine am_ev.step (pc' := 22) rfl rfl ?_
  refine fx_bip (p' := 24) rfl rfl rfl ?_
  refine ax_call (z := 37) (p' := 27) (as := [_, _]) rfl (Or.inr (Or.inl ⟨_, rfl⟩)) rfl rfl rfl rfl rfl rfl (fO (fO (S.ob rfl))) rfl (ru_37a (i := 6) ((S.po rfl rfl).po rfl rfl) (by omega) ((ax_put_o (Or.inl (by decide)) (ax_put_o (Or.inl (by decide)) v446)))) rfl ?_
  refine ax_pf (p' := 30) rfl rfl (fO (fO (S.ob rfl))) rfl ?_
  refine am_ev.step (pc' := 31) rfl rfl ?_
  refine am_ev.step (pc' := 32) rfl rfl ?_
  refine am_ev.step (pc' := 33) rfl rfl ?_
  refine ax_call (z := 37) (p' := 36) (as := [_, _]) rfl (Or.inr (Or.inl ⟨_, rfl⟩)) rfl rfl rfl rfl rfl rfl (fO (fO (fO (S.ob rfl)))) rfl (ru_37a (i := 4) (((S.po rfl rfl).po rfl rfl).po rfl rfl) (by omega) ((ax_put_o (Or.inl (by decide)) (ax_put_o (Or.inl (by decide)) (ax_put_o (Or.inl (by decide)) v444))))) rfl ?_
  refine am_ev.step (pc' := 37) rfl rfl ?_
  refine am_ev.step (pc' := 38) rfl rfl ?_
  refine ax_call (z := 37) (p' := 41) (as := [_, _]) rfl (Or.inr (Or.inl ⟨_, rfl⟩)) rfl rfl rfl rfl rfl rfl (fO (fO (fO (S.ob rfl)))) rfl (ru_37a (i := 1) (((S.po rfl rfl).po rfl rfl).po rfl rfl) (by omega) ((ax_put_o (Or.inl (by decide)) (ax_put_o (Or.inl (by decide)) (ax_put_o (Or.inl (by decide)) v441))))) rfl ?_
  refine fx_mul (p' := 42) (e := M) rfl rfl hm ?_
  refine am_ev.step (pc' := 43) rfl rfl ?_
  refine am_ev.step (pc' := 44) rfl rfl ?_
  refine ax_call (z := 37) (p' := 47) (as := [_, _]) rfl (Or.inr (Or.inl ⟨_, rfl⟩)) rfl rfl rfl rfl rfl rfl (fO (fO (fO (S.ob rfl)))) rfl (ru_37a (i := 3) (((S.po rfl rfl).po rfl rfl).po rfl rfl) (by omega) ((ax_put_o (Or.inl (by decide)) (ax_put_o (Or.inl (by decide)) (ax_put_o (Or.inl (by decide)) v443))))) rfl ?_
  refine fx_sub (p' := 48) (e := (M - V3)) rfl rfl (by omega) ?_
  refine ax_pf (p' := 51) rfl rfl (fO (fO (fO (S.ob rfl)))) rfl ?_
  refine am_ev.step (pc' := 52) rfl rfl ?_
  refine am_ev.step (pc' := 53) rfl rfl ?_
  refine am_ev.step (pc' := 54) rfl rfl ?_
  refine ax_call (z := 37) (p' := 57) (as := [_, _]) rfl (Or.inr (Or.inl ⟨_, rfl⟩)) rfl rfl rfl rfl rfl rfl (fO (fO (fO (fO (S.ob rfl))))) rfl (ru_37a (i := 5) ((((S.po rfl rfl).po rfl rfl).po rfl rfl).po rfl rfl) (by omega) ((ax_put_o (Or.inl (by decide)) (ax_put_o (Or.inl (by decide)) (ax_put_o (Or.inl (by decide)) (ax_put_o (Or.inl (by decide)) v445)))))) rfl ?_
  refine ax_pf (p' := 60) rfl rfl (fO (fO (fO (fO (S.ob rfl))))) rfl ?_
  refine am_ev.step (pc' := 61) rfl rfl ?_
  refine ax_gf (p' := 64) rfl rfl (fO (fO (fO (fO (fO (S.ob rfl)))))) (ax_put_o (Or.inr (by decide)) (ax_put_o (Or.inr (by decide)) (ax_put_o (Or.inr (by decide)) (ax_put_o (Or.inr (by decide)) (ax_put_o (Or.inr (by decide)) (S.rf rfl rfl)))))) ?_
  refine am_ev.step (pc' := 65) rfl rfl ?_
  refine ax_call (z := 5) (p' := 68) (as := [_, _]) rfl (Or.inl ⟨_, rfl⟩) rfl rfl rfl rfl rfl rfl rfl rfl H5 rfl ?_
  exact am_ev.retv rfl rfl
theorem wo_113a (S : fS h) (Ok : am_isO h k 1 = true) (Os : am_isO h s 6 = true) (x2 : h.2.2.2 k 2 = iv A) (x1 : h.2.2.2 k 1 = .ref s) (y0 : h.2.2.2 s 0 = iv po) (hpo : po < 20) (vT : h.2.2.2 64 po = iv T) (v5 : h.2.2.2 63 5 = iv mo) (v6 : h.2.2.2 63 6 = iv P) (v7 : h.2.2.2 63 7 = iv F) (x5 : h.2.2.2 k 5 = iv pg) (x6 : h.2.2.2 k 6 = iv fe) (bT : 0 ≤ T ∧ T ≤ 14) (bm : 1 ≤ mo ∧ mo ≤ 9) (bP : -30 ≤ P ∧ P ≤ 2000) (bF : 0 ≤ F ∧ F ≤ 99999) (bp : 0 ≤ p ∧ p ≤ 500) (bf : 0 ≤ f ∧ f ≤ 99999) (bpg : -1 ≤ pg ∧ pg ≤ 30) (bfe : 0 ≤ fe ∧ fe ≤ 299970) (hA : A = 0) : am_ev d 113 0 (am_ent [.ref 63, .ref k, iv f, iv p] 4) [] h (some (iv 0), h) := by
  show am_ev d 113 0 [.ref 63, .ref k, iv f, iv p] [] h _
  refine am_ev.step (pc' := 1) rfl rfl ?_
  refine ax_gf (p' := 4) rfl rfl Ok x2 ?_
  refine fx_z_eq_T (pT := 56) rfl (by omega) rfl (by omega) ?_
  refine am_ev.step (pc' := 57) rfl rfl ?_
  exact fx_reti rfl rfl rfl
theorem wo_113b (S : fS h) (Ok : am_isO h k 1 = true) (Os : am_isO h s 6 = true) (x2 : h.2.2.2 k 2 = iv A) (x1 : h.2.2.2 k 1 = .ref s) (y0 : h.2.2.2 s 0 = iv po) (hpo : po < 20) (vT : h.2.2.2 64 po = iv T) (v5 : h.2.2.2 63 5 = iv mo) (v6 : h.2.2.2 63 6 = iv P) (v7 : h.2.2.2 63 7 = iv F) (x5 : h.2.2.2 k 5 = iv pg) (x6 : h.2.2.2 k 6 = iv fe) (bT : 0 ≤ T ∧ T ≤ 14) (bm : 1 ≤ mo ∧ mo ≤ 9) (bP : -30 ≤ P ∧ P ≤ 2000) (bF : 0 ≤ F ∧ F ≤ 99999) (bp : 0 ≤ p ∧ p ≤ 500) (bf : 0 ≤ f ∧ f ≤ 99999) (bpg : -1 ≤ pg ∧ pg ≤ 30) (bfe : 0 ≤ fe ∧ fe ≤ 299970) (hA : A = 1) (hT : ¬ T < mo) : am_ev d 113 0 (am_ent [.ref 63, .ref k, iv f, iv p] 4) [] h (some (iv 0), h) := by
  show am_ev d 113 0 [.ref 63, .ref k, iv f, iv p] [] h _
  refine am_ev.step (pc' := 1) rfl rfl ?_
  refine ax_gf (p' := 4) rfl rfl Ok x2 ?_
  refine fx_z_eq_F (pF := 7) rfl (by omega) rfl (by omega) ?_
  refine am_ev.step (pc' := 8) rfl rfl ?_
  refine ax_gf (p' := 11) rfl rfl (S.ob rfl) (S.rf rfl rfl) ?_
  refine am_ev.step (pc' := 12) rfl rfl ?_
  refine ax_gf (p' := 15) rfl rfl Ok x1 ?_
  refine ax_gf (p' := 18) rfl rfl Os y0 ?_
  refine ax_iaload (p' := 19) rfl rfl (S.rd (k := po) rfl rfl rfl rfl rfl (by omega) vT) ?_
  refine am_ev.step (pc' := 20) rfl rfl ?_
  refine ax_gf (p' := 23) rfl rfl (S.ob rfl) v5 ?_
  refine fx_c_ge_T (pT := 56) rfl (by omega) (by omega) rfl (by omega) ?_
  refine am_ev.step (pc' := 57) rfl rfl ?_
  exact fx_reti rfl rfl rfl
theorem wo_113c (S : fS h) (Ok : am_isO h k 1 = true) (Os : am_isO h s 6 = true) (x2 : h.2.2.2 k 2 = iv A) (x1 : h.2.2.2 k 1 = .ref s) (y0 : h.2.2.2 s 0 = iv po) (hpo : po < 20) (vT : h.2.2.2 64 po = iv T) (v5 : h.2.2.2 63 5 = iv mo) (v6 : h.2.2.2 63 6 = iv P) (v7 : h.2.2.2 63 7 = iv F) (x5 : h.2.2.2 k 5 = iv pg) (x6 : h.2.2.2 k 6 = iv fe) (bT : 0 ≤ T ∧ T ≤ 14) (bm : 1 ≤ mo ∧ mo ≤ 9) (bP : -30 ≤ P ∧ P ≤ 2000) (bF : 0 ≤ F ∧ F ≤ 99999) (bp : 0 ≤ p ∧ p ≤ 500) (bf : 0 ≤ f ∧ f ≤ 99999) (bpg : -1 ≤ pg ∧ pg ≤ 30) (bfe : 0 ≤ fe ∧ fe ≤ 299970) (hA : A = 1) (hT : T < mo) (hp : ¬ p + pg ≤ P) : am_ev d 113 0 (am_ent [.ref 63, .ref k, iv f, iv p] 4) [] h (some (iv 0), h) := by
  show am_ev d 113 0 [.ref 63, .ref k, iv f, iv p] [] h _
  refine am_ev.step (pc' := 1) rfl rfl ?_
  refine ax_gf (p' := 4) rfl rfl Ok x2 ?_
  refine fx_z_eq_F (pF := 7) rfl (by omega) rfl (by omega) ?_
  refine am_ev.step (pc' := 8) rfl rfl ?_
  refine ax_gf (p' := 11) rfl rfl (S.ob rfl) (S.rf rfl rfl) ?_
  refine am_ev.step (pc' := 12) rfl rfl ?_
  refine ax_gf (p' := 15) rfl rfl Ok x1 ?_
  refine ax_gf (p' := 18) rfl rfl Os y0 ?_
  refine ax_iaload (p' := 19) rfl rfl (S.rd (k := po) rfl rfl rfl rfl rfl (by omega) vT) ?_
  refine am_ev.step (pc' := 20) rfl rfl ?_
  refine ax_gf (p' := 23) rfl rfl (S.ob rfl) v5 ?_
  refine fx_c_ge_F (pF := 26) rfl (by omega) (by omega) rfl (by omega) ?_
  refine am_ev.step (pc' := 27) rfl rfl ?_
  refine am_ev.step (pc' := 28) rfl rfl ?_
  refine ax_gf (p' := 31) rfl rfl Ok x5 ?_
  refine fx_add (p' := 32) (e := (p + pg)) rfl rfl (by omega) ?_
  refine am_ev.step (pc' := 33) rfl rfl ?_
  refine ax_gf (p' := 36) rfl rfl (S.ob rfl) v6 ?_
  refine fx_c_gt_T (pT := 56) rfl (by omega) (by omega) rfl (by omega) ?_
  refine am_ev.step (pc' := 57) rfl rfl ?_
  exact fx_reti rfl rfl rfl
theorem wo_113d (S : fS h) (Ok : am_isO h k 1 = true) (Os : am_isO h s 6 = true) (x2 : h.2.2.2 k 2 = iv A) (x1 : h.2.2.2 k 1 = .ref s) (y0 : h.2.2.2 s 0 = iv po) (hpo : po < 20) (vT : h.2.2.2 64 po = iv T) (v5 : h.2.2.2 63 5 = iv mo) (v6 : h.2.2.2 63 6 = iv P) (v7 : h.2.2.2 63 7 = iv F) (x5 : h.2.2.2 k 5 = iv pg) (x6 : h.2.2.2 k 6 = iv fe) (bT : 0 ≤ T ∧ T ≤ 14) (bm : 1 ≤ mo ∧ mo ≤ 9) (bP : -30 ≤ P ∧ P ≤ 2000) (bF : 0 ≤ F ∧ F ≤ 99999) (bp : 0 ≤ p ∧ p ≤ 500) (bf : 0 ≤ f ∧ f ≤ 99999) (bpg : -1 ≤ pg ∧ pg ≤ 30) (bfe : 0 ≤ fe ∧ fe ≤ 299970) (hA : A = 1) (hT : T < mo) (hp : p + pg ≤ P) (hf : ¬ f + fe ≤ F) : am_ev d 113 0 (am_ent [.ref 63, .ref k, iv f, iv p] 4) [] h (some (iv 0), h) := by
  show am_ev d 113 0 [.ref 63, .ref k, iv f, iv p] [] h _
  refine am_ev.step (pc' := 1) rfl rfl ?_
  refine ax_gf (p' := 4) rfl rfl Ok x2 ?_
  refine fx_z_eq_F (pF := 7) rfl (by omega) rfl (by omega) ?_
  refine am_ev.step (pc' := 8) rfl rfl ?_
  refine ax_gf (p' := 11) rfl rfl (S.ob rfl) (S.rf rfl rfl) ?_
  refine am_ev.step (pc' := 12) rfl rfl ?_
  refine ax_gf (p' := 15) rfl rfl Ok x1 ?_
  refine ax_gf (p' := 18) rfl rfl Os y0 ?_
  refine ax_iaload (p' := 19) rfl rfl (S.rd (k := po) rfl rfl rfl rfl rfl (by omega) vT) ?_
  refine am_ev.step (pc' := 20) rfl rfl ?_
  refine ax_gf (p' := 23) rfl rfl (S.ob rfl) v5 ?_
  refine fx_c_ge_F (pF := 26) rfl (by omega) (by omega) rfl (by omega) ?_
  refine am_ev.step (pc' := 27) rfl rfl ?_
  refine am_ev.step (pc' := 28) rfl rfl ?_
  refine ax_gf (p' := 31) rfl rfl Ok x5 ?_
  refine fx_add (p' := 32) (e := (p + pg)) rfl rfl (by omega) ?_
  refine am_ev.step (pc' := 33) rfl rfl ?_
  refine ax_gf (p' := 36) rfl rfl (S.ob rfl) v6 ?_
  refine fx_c_gt_F (pF := 39) rfl (by omega) (by omega) rfl (by omega) ?_
  refine am_ev.step (pc' := 40) rfl rfl ?_
  refine am_ev.step (pc' := 41) rfl rfl ?_
  refine ax_gf (p' := 44) rfl rfl Ok x6 ?_
  refine fx_add (p' := 45) (e := (f + fe)) rfl rfl (by omega) ?_
  refine am_ev.step (pc' := 46) rfl rfl ?_
  refine ax_gf (p' := 49) rfl rfl (S.ob rfl) v7 ?_
  refine fx_c_gt_T (pT := 56) rfl (by omega) (by omega) rfl (by omega) ?_
  refine am_ev.step (pc' := 57) rfl rfl ?_
  exact fx_reti rfl rfl rfl
theorem wo_113y (S : fS h) (Ok : am_isO h k 1 = true) (Os : am_isO h s 6 = true) (x2 : h.2.2.2 k 2 = iv A) (x1 : h.2.2.2 k 1 = .ref s) (y0 : h.2.2.2 s 0 = iv po) (hpo : po < 20) (vT : h.2.2.2 64 po = iv T) (v5 : h.2.2.2 63 5 = iv mo) (v6 : h.2.2.2 63 6 = iv P) (v7 : h.2.2.2 63 7 = iv F) (x5 : h.2.2.2 k 5 = iv pg) (x6 : h.2.2.2 k 6 = iv fe) (bT : 0 ≤ T ∧ T ≤ 14) (bm : 1 ≤ mo ∧ mo ≤ 9) (bP : -30 ≤ P ∧ P ≤ 2000) (bF : 0 ≤ F ∧ F ≤ 99999) (bp : 0 ≤ p ∧ p ≤ 500) (bf : 0 ≤ f ∧ f ≤ 99999) (bpg : -1 ≤ pg ∧ pg ≤ 30) (bfe : 0 ≤ fe ∧ fe ≤ 299970) (hA : A = 1) (hT : T < mo) (hp : p + pg ≤ P) (hf : f + fe ≤ F) : am_ev d 113 0 (am_ent [.ref 63, .ref k, iv f, iv p] 4) [] h (some (iv 1), h) := by
  show am_ev d 113 0 [.ref 63, .ref k, iv f, iv p] [] h _
  refine am_ev.step (pc' := 1) rfl rfl ?_
  refine ax_gf (p' := 4) rfl rfl Ok x2 ?_
  refine fx_z_eq_F (pF := 7) rfl (by omega) rfl (by omega) ?_
  refine am_ev.step (pc' := 8) rfl rfl ?_
  refine ax_gf (p' := 11) rfl rfl (S.ob rfl) (S.rf rfl rfl) ?_
  refine am_ev.step (pc' := 12) rfl rfl ?_
  refine ax_gf (p' := 15) rfl rfl Ok x1 ?_
  refine ax_gf (p' := 18) rfl rfl Os y0 ?_
  refine ax_iaload (p' := 19) rfl rfl (S.rd (k := po) rfl rfl rfl rfl rfl (by omega) vT) ?_
  refine am_ev.step (pc' := 20) rfl rfl ?_
  refine ax_gf (p' := 23) rfl rfl (S.ob rfl) v5 ?_
  refine fx_c_ge_F (pF := 26) rfl (by omega) (by omega) rfl (by omega) ?_
  refine am_ev.step (pc' := 27) rfl rfl ?_
  refine am_ev.step (pc' := 28) rfl rfl ?_
  refine ax_gf (p' := 31) rfl rfl Ok x5 ?_
  refine fx_add (p' := 32) (e := (p + pg)) rfl rfl (by omega) ?_
  refine am_ev.step (pc' := 33) rfl rfl ?_
  refine ax_gf (p' := 36) rfl rfl (S.ob rfl) v6 ?_
  refine fx_c_gt_F (pF := 39) rfl (by omega) (by omega) rfl (by omega) ?_
  refine am_ev.step (pc' := 40) rfl rfl ?_
  refine am_ev.step (pc' := 41) rfl rfl ?_
  refine ax_gf (p' := 44) rfl rfl Ok x6 ?_
  refine fx_add (p' := 45) (e := (f + fe)) rfl rfl (by omega) ?_
  refine am_ev.step (pc' := 46) rfl rfl ?_
  refine ax_gf (p' := 49) rfl rfl (S.ob rfl) v7 ?_
  refine fx_c_gt_F (pF := 52) rfl (by omega) (by omega) rfl (by omega) ?_
  refine am_ev.step (pc' := 53) rfl rfl ?_
  refine am_ev.step (pc' := 57) rfl rfl ?_
  exact fx_reti rfl rfl rfl
theorem wo_117e (S : fS h) (v4 : h.2.2.2 63 4 = iv n) (hn : n ≤ 14) (hc : c = n) (bw : 0 ≤ w ∧ w ≤ 2000) : am_ev (d + 2) 117 29 [.ref 63, .int S0, .ref 74, iv ((n : Int)), .ref 43, iv (w), iv (f), iv (p), iv ((c : Int)), x9] [] h (some (iv w), h) := by
  refine am_ev.step (pc' := 31) rfl rfl ?_
  refine am_ev.step (pc' := 32) rfl rfl ?_
  refine ax_gf (p' := 35) rfl rfl (S.ob rfl) v4 ?_
  refine fx_c_ge_T (pT := 127) rfl (by omega) (by omega) rfl (by omega) ?_
  refine am_ev.step (pc' := 129) rfl rfl ?_
  exact fx_reti rfl rfl rfl
theorem wo_117n (S : fS h) (v4 : h.2.2.2 63 4 = iv n) (hn : n ≤ 14) (hc : c < n) (qb : bt S0 c = false) {x : Option Value × am_H} (q9 : am_ev (d + 2) 117 29 [.ref 63, .int S0, .ref 74, iv ((n : Int)), .ref 43, iv (w), iv (f), iv (p), iv ((c + 1 : Nat) : Int), x9] [] h x) : am_ev (d + 2) 117 29 [.ref 63, .int S0, .ref 74, iv ((n : Int)), .ref 43, iv (w), iv (f), iv (p), iv ((c : Int)), x9] [] h x := by
  refine am_ev.step (pc' := 31) rfl rfl ?_
  refine am_ev.step (pc' := 32) rfl rfl ?_
  refine ax_gf (p' := 35) rfl rfl (S.ob rfl) v4 ?_
  refine fx_c_ge_F (pF := 38) rfl (by omega) (by omega) rfl (by omega) ?_
  refine am_ev.step (pc' := 39) rfl rfl ?_
  refine am_ev.step (pc' := 41) rfl rfl ?_
  refine ax_call (z := 31) (p' := 44) (as := [_, _]) rfl (Or.inl ⟨_, rfl⟩) rfl rfl rfl rfl rfl rfl rfl rfl ((tk_31 (c := c) (by omega)).2 qb) rfl ?_
  refine fx_z_eq_T (pT := 121) rfl (by omega) rfl (by omega) ?_
  refine fx_inc (p' := 124) (e := ((c : Int) + 1)) (ls' := [.ref 63, .int S0, .ref 74, iv ((n : Int)), .ref 43, iv (w), iv (f), iv (p), iv ((c : Int) + 1), x9]) rfl rfl rfl (by omega) rfl ?_
  refine am_ev.step (pc' := 29) rfl rfl ?_
  exact (rr_n ▸ q9)
theorem wo_117f (S : fS h) (v4 : h.2.2.2 63 4 = iv n) (hn : n ≤ 14) (v3 : h.2.2.2 63 3 = .ref 74) (v74 : h.2.2.2 74 c = .ref k) (Ok : am_isO h k 1 = true) (H113 : am_ev (d + 1) 113 0 (am_ent [.ref 63, .ref k, iv f, iv p] 4) [] h (some (iv 0), h)) (hc : c < n) (qb : bt S0 c = true) : am_ev (d + 2) 117 29 [.ref 63, .int S0, .ref 74, iv ((n : Int)), .ref 43, iv (w), iv (f), iv (p), iv ((c : Int)), x9] [] h (some (iv (-1)), h) := by
  refine am_ev.step (pc' := 31) rfl rfl ?_
  refine am_ev.step (pc' := 32) rfl rfl ?_
  refine ax_gf (p' := 35) rfl rfl (S.ob rfl) v4 ?_
  refine fx_c_ge_F (pF := 38) rfl (by omega) (by omega) rfl (by omega) ?_
  refine am_ev.step (pc' := 39) rfl rfl ?_
  refine am_ev.step (pc' := 41) rfl rfl ?_
  refine ax_call (z := 31) (p' := 44) (as := [_, _]) rfl (Or.inl ⟨_, rfl⟩) rfl rfl rfl rfl rfl rfl rfl rfl ((tk_31 (c := c) (by omega)).1 qb) rfl ?_
  refine fx_z_eq_F (pF := 47) rfl (by omega) rfl (by omega) ?_
  refine am_ev.step (pc' := 48) rfl rfl ?_
  refine ax_gf (p' := 51) rfl rfl (S.ob rfl) v3 ?_
  refine am_ev.step (pc' := 53) rfl rfl ?_
  refine ax_aaload (p' := 54) rfl rfl (S.rd (k := c) rfl rfl rfl rfl rfl (by omega) v74) ?_
  refine am_ev.step (pc' := 56) (ls' := [.ref 63, .int S0, .ref 74, iv ((n : Int)), .ref 43, iv (w), iv (f), iv (p), iv ((c : Int)), .ref k]) rfl rfl ?_
  refine am_ev.step (pc' := 57) rfl rfl ?_
  refine am_ev.step (pc' := 59) rfl rfl ?_
  refine am_ev.step (pc' := 61) rfl rfl ?_
  refine am_ev.step (pc' := 63) rfl rfl ?_
  refine ax_call (z := 113) (p' := 66) (as := [_, _, _, _]) rfl (Or.inr (Or.inl ⟨_, rfl⟩)) rfl rfl rfl rfl rfl rfl (S.ob rfl) rfl H113 rfl ?_
  refine fx_z_ne_F (pF := 69) rfl (by omega) rfl (by omega) ?_
  refine am_ev.step (pc' := 70) rfl rfl ?_
  exact fx_reti rfl rfl rfl
theorem wo_117y (S : fS h) (v4 : h.2.2.2 63 4 = iv n) (hn : n ≤ 14) (v3 : h.2.2.2 63 3 = .ref 74) (v74 : h.2.2.2 74 c = .ref k) (Ok : am_isO h k 1 = true) (Os : am_isO h s 6 = true) (hk : 130 ≤ k) (hs : 130 ≤ s) (x1 : h.2.2.2 k 1 = .ref s) (y0 : h.2.2.2 s 0 = iv po) (hpo : po < 20) (y3 : h.2.2.2 s 3 = iv wo) (vT : h.2.2.2 64 po = iv T) (x5 : h.2.2.2 k 5 = iv pg) (x6 : h.2.2.2 k 6 = iv fe) (bT : 0 ≤ T ∧ T ≤ 14) (bp : 0 ≤ p ∧ p ≤ 500) (bf : 0 ≤ f ∧ f ≤ 99999) (bw : 0 ≤ w ∧ w ≤ 2000) (bpg : 0 ≤ pg ∧ pg ≤ 30) (bfe : 0 ≤ fe ∧ fe ≤ 299970) (bwo : 0 ≤ wo ∧ wo ≤ 99) (H113 : am_ev (d + 1) 113 0 (am_ent [.ref 63, .ref k, iv f, iv p] 4) [] h (some (iv 1), h)) (hc : c < n) (qb : bt S0 c = true) {x : Option Value × am_H} (q9 : am_ev (d + 2) 117 29 [.ref 63, .int S0, .ref 74, iv ((n : Int)), .ref 43, iv ((w + wo)), iv ((f + fe)), iv ((p + pg)), iv ((c + 1 : Nat) : Int), .ref k] [] (am_put h 64 po (iv (T + 1))) x) : am_ev (d + 2) 117 29 [.ref 63, .int S0, .ref 74, iv ((n : Int)), .ref 43, iv (w), iv (f), iv (p), iv ((c : Int)), x9] [] h x := by
  refine am_ev.step (pc' := 31) rfl rfl ?_
  refine am_ev.step (pc' := 32) rfl rfl ?_
  refine ax_gf (p' := 35) rfl rfl (S.ob rfl) v4 ?_
  refine fx_c_ge_F (pF := 38) rfl (by omega) (by omega) rfl (by omega) ?_
  refine am_ev.step (pc' := 39) rfl rfl ?_
  refine am_ev.step (pc' := 41) rfl rfl ?_
  refine ax_call (z := 31) (p' := 44) (as := [_, _]) rfl (Or.inl ⟨_, rfl⟩) rfl rfl rfl rfl rfl rfl rfl rfl ((tk_31 (c := c) (by omega)).1 qb) rfl ?_
  refine fx_z_eq_F (pF := 47) rfl (by omega) rfl (by omega) ?_
  refine am_ev.step (pc' := 48) rfl rfl ?_
  refine ax_gf (p' := 51) rfl rfl (S.ob rfl) v3 ?_
  refine am_ev.step (pc' := 53) rfl rfl ?_
  refine ax_aaload (p' := 54) rfl rfl (S.rd (k := c) rfl rfl rfl rfl rfl (by omega) v74) ?_
  refine am_ev.step (pc' := 56) (ls' := [.ref 63, .int S0, .ref 74, iv ((n : Int)), .ref 43, iv (w), iv (f), iv (p), iv ((c : Int)), .ref k]) rfl rfl ?_
  refine am_ev.step (pc' := 57) rfl rfl ?_
  refine am_ev.step (pc' := 59) rfl rfl ?_
  refine am_ev.step (pc' := 61) rfl rfl ?_
  refine am_ev.step (pc' := 63) rfl rfl ?_
  refine ax_call (z := 113) (p' := 66) (as := [_, _, _, _]) rfl (Or.inr (Or.inl ⟨_, rfl⟩)) rfl rfl rfl rfl rfl rfl (S.ob rfl) rfl H113 rfl ?_
  refine fx_z_ne_T (pT := 71) rfl (by omega) rfl (by omega) ?_
  refine am_ev.step (pc' := 72) rfl rfl ?_
  refine ax_gf (p' := 75) rfl rfl (S.ob rfl) (S.rf rfl rfl) ?_
  refine am_ev.step (pc' := 77) rfl rfl ?_
  refine ax_gf (p' := 80) rfl rfl Ok x1 ?_
  refine ax_gf (p' := 83) rfl rfl Os y0 ?_
  refine am_ev.step (pc' := 84) rfl rfl ?_
  refine ax_iaload (p' := 85) rfl rfl (S.rd (k := po) rfl rfl rfl rfl rfl (by omega) vT) ?_
  refine am_ev.step (pc' := 86) rfl rfl ?_
  refine fx_add (p' := 87) (e := (T + 1)) rfl rfl (by omega) ?_
  refine ax_iastore (p' := 88) rfl rfl (S.wr (k := po) rfl rfl rfl rfl (by omega)) ?_
  refine am_ev.step (pc' := 90) rfl rfl ?_
  refine am_ev.step (pc' := 92) rfl rfl ?_
  refine ax_gf (p' := 95) rfl rfl (fO Ok) (ax_put_o (Or.inl (by omega)) x1) ?_
  refine ax_gf (p' := 98) rfl rfl (fO Os) (ax_put_o (Or.inl (by omega)) y3) ?_
  refine fx_add (p' := 99) (e := (w + wo)) rfl rfl (by omega) ?_
  refine am_ev.step (pc' := 101) (ls' := [.ref 63, .int S0, .ref 74, iv ((n : Int)), .ref 43, iv (w + wo), iv (f), iv (p), iv ((c : Int)), .ref k]) rfl rfl ?_
  refine am_ev.step (pc' := 103) rfl rfl ?_
  refine am_ev.step (pc' := 105) rfl rfl ?_
  refine ax_gf (p' := 108) rfl rfl (fO Ok) (ax_put_o (Or.inl (by omega)) x6) ?_
  refine fx_add (p' := 109) (e := (f + fe)) rfl rfl (by omega) ?_
  refine am_ev.step (pc' := 111) (ls' := [.ref 63, .int S0, .ref 74, iv ((n : Int)), .ref 43, iv (w + wo), iv (f + fe), iv (p), iv ((c : Int)), .ref k]) rfl rfl ?_
  refine am_ev.step (pc' := 113) rfl rfl ?_
  refine am_ev.step (pc' := 115) rfl rfl ?_
  refine ax_gf (p' := 118) rfl rfl (fO Ok) (ax_put_o (Or.inl (by omega)) x5) ?_
  refine fx_add (p' := 119) (e := (p + pg)) rfl rfl (by omega) ?_
  refine am_ev.step (pc' := 121) (ls' := [.ref 63, .int S0, .ref 74, iv ((n : Int)), .ref 43, iv (w + wo), iv (f + fe), iv (p + pg), iv ((c : Int)), .ref k]) rfl rfl ?_
  refine fx_inc (p' := 124) (e := ((c : Int) + 1)) (ls' := [.ref 63, .int S0, .ref 74, iv ((n : Int)), .ref 43, iv (w + wo), iv (f + fe), iv (p + pg), iv ((c : Int) + 1), .ref k]) rfl rfl rfl (by omega) rfl ?_
  refine am_ev.step (pc' := 29) rfl rfl ?_
  exact (rr_n ▸ q9)
theorem wo_117z (S : fS h) (H110 : am_ev (d + 1) 110 0 (am_ent [.ref 63, .ref 74, iv n, .ref 43] 4) [] h (none, G)) (SG : fS G) (v6 : G.2.2.2 63 6 = iv P) (bP : -30 ≤ P ∧ P ≤ 2000) (hP : P < 0) : am_ev (d + 2) 117 0 (am_ent [.ref 63, .int S0, .ref 74, iv n, .ref 43] 10) [] h (some (iv (-1)), G) := by
  show am_ev (d + 2) 117 0 [.ref 63, .int S0, .ref 74, iv ((n : Int)), .ref 43, am_ph, am_ph, am_ph, am_ph, am_ph] [] h _
  refine am_ev.step (pc' := 1) rfl rfl ?_
  refine am_ev.step (pc' := 2) rfl rfl ?_
  refine am_ev.step (pc' := 3) rfl rfl ?_
  refine am_ev.step (pc' := 5) rfl rfl ?_
  refine ax_call (z := 110) (p' := 8) (as := [_, _, _, _]) rfl (Or.inr (Or.inl ⟨_, rfl⟩)) rfl rfl rfl rfl rfl rfl (S.ob rfl) rfl H110 rfl ?_
  refine am_ev.step (pc' := 9) rfl rfl ?_
  refine ax_gf (p' := 12) rfl rfl (SG.ob rfl) v6 ?_
  refine fx_z_ge_F (pF := 15) rfl (by omega) rfl (by omega) ?_
  refine am_ev.step (pc' := 16) rfl rfl ?_
  exact fx_reti rfl rfl rfl
theorem wo_117s (S : fS h) (H110 : am_ev (d + 1) 110 0 (am_ent [.ref 63, .ref 74, iv n, .ref 43] 4) [] h (none, G)) (SG : fS G) (v6 : G.2.2.2 63 6 = iv P) (bP : -30 ≤ P ∧ P ≤ 2000) (hP : 0 ≤ P) {x : Option Value × am_H} (q9 : am_ev (d + 2) 117 29 [.ref 63, .int S0, .ref 74, iv ((n : Int)), .ref 43, iv 0, iv 0, iv 0, iv 0, am_ph] [] G x) : am_ev (d + 2) 117 0 (am_ent [.ref 63, .int S0, .ref 74, iv n, .ref 43] 10) [] h x := by
  show am_ev (d + 2) 117 0 [.ref 63, .int S0, .ref 74, iv ((n : Int)), .ref 43, am_ph, am_ph, am_ph, am_ph, am_ph] [] h _
  refine am_ev.step (pc' := 1) rfl rfl ?_
  refine am_ev.step (pc' := 2) rfl rfl ?_
  refine am_ev.step (pc' := 3) rfl rfl ?_
  refine am_ev.step (pc' := 5) rfl rfl ?_
  refine ax_call (z := 110) (p' := 8) (as := [_, _, _, _]) rfl (Or.inr (Or.inl ⟨_, rfl⟩)) rfl rfl rfl rfl rfl rfl (S.ob rfl) rfl H110 rfl ?_
  refine am_ev.step (pc' := 9) rfl rfl ?_
  refine ax_gf (p' := 12) rfl rfl (SG.ob rfl) v6 ?_
  refine fx_z_ge_T (pT := 17) rfl (by omega) rfl (by omega) ?_
  refine am_ev.step (pc' := 18) rfl rfl ?_
  refine am_ev.step (pc' := 20) (ls' := [.ref 63, .int S0, .ref 74, iv ((n : Int)), .ref 43, iv 0, am_ph, am_ph, am_ph, am_ph]) rfl rfl ?_
  refine am_ev.step (pc' := 21) rfl rfl ?_
  refine am_ev.step (pc' := 23) (ls' := [.ref 63, .int S0, .ref 74, iv ((n : Int)), .ref 43, iv 0, iv 0, am_ph, am_ph, am_ph]) rfl rfl ?_
  refine am_ev.step (pc' := 24) rfl rfl ?_
  refine am_ev.step (pc' := 26) (ls' := [.ref 63, .int S0, .ref 74, iv ((n : Int)), .ref 43, iv 0, iv 0, iv 0, am_ph, am_ph]) rfl rfl ?_
  refine am_ev.step (pc' := 27) rfl rfl ?_
  refine am_ev.step (pc' := 29) (ls' := [.ref 63, .int S0, .ref 74, iv ((n : Int)), .ref 43, iv 0, iv 0, iv 0, iv 0, am_ph]) rfl rfl ?_
  exact q9
theorem wo_107 (S : fS h) (v13 : h.2.2.2 40 13 = iv n) : am_ev d 107 0 (am_ent [.ref 40] 1) [] h (some (.int (wkM n)), h) := by
  show am_ev d 107 0 [.ref 40] [] h _
  refine am_ev.step (pc' := 1) rfl rfl ?_
  refine am_ev.step (pc' := 2) rfl rfl ?_
  refine ax_gf (p' := 5) rfl rfl (S.ob rfl) v13 ?_
  refine am_ev.step (pc' := 6) rfl rfl ?_
  refine am_ev.step (pc' := 7) rfl rfl ?_
  refine am_ev.step (pc' := 8) rfl rfl ?_
  exact fx_reti rfl rfl rfl
theorem wo_116t (S : fS h) (v13 : h.2.2.2 40 13 = iv n) (hm : (S0 &&& (wkM n ^^^ Int32.ofInt (-1))) = 0) : am_ev (d + 1) 116 0 (am_ent [.ref 40, .int S0] 2) [] h (some (iv 1), h) := by
  show am_ev (d + 1) 116 0 [.ref 40, .int S0] [] h _
  refine am_ev.step (pc' := 1) rfl rfl ?_
  refine am_ev.step (pc' := 2) rfl rfl ?_
  refine ax_call (z := 107) (p' := 5) (as := [_]) rfl (Or.inr (Or.inl ⟨_, rfl⟩)) rfl rfl rfl rfl rfl rfl (S.ob rfl) rfl (wo_107 S v13) rfl ?_
  refine am_ev.step (pc' := 6) rfl rfl ?_
  refine am_ev.step (pc' := 7) rfl rfl ?_
  refine am_ev.step (pc' := 8) rfl rfl ?_
  refine ax_z_ne_N (p' := 11) rfl rfl hm ?_
  refine am_ev.step (pc' := 12) rfl rfl ?_
  refine am_ev.step (pc' := 16) rfl rfl ?_
  exact fx_reti rfl rfl rfl
theorem wo_116f (S : fS h) (v13 : h.2.2.2 40 13 = iv n) (hm : ¬ (S0 &&& (wkM n ^^^ Int32.ofInt (-1))) = 0) : am_ev (d + 1) 116 0 (am_ent [.ref 40, .int S0] 2) [] h (some (iv 0), h) := by
  show am_ev (d + 1) 116 0 [.ref 40, .int S0] [] h _
  refine am_ev.step (pc' := 1) rfl rfl ?_
  refine am_ev.step (pc' := 2) rfl rfl ?_
  refine ax_call (z := 107) (p' := 5) (as := [_]) rfl (Or.inr (Or.inl ⟨_, rfl⟩)) rfl rfl rfl rfl rfl rfl (S.ob rfl) rfl (wo_107 S v13) rfl ?_
  refine am_ev.step (pc' := 6) rfl rfl ?_
  refine am_ev.step (pc' := 7) rfl rfl ?_
  refine am_ev.step (pc' := 8) rfl rfl ?_
  refine ax_z_ne_T (p' := 15) rfl rfl hm ?_
  refine am_ev.step (pc' := 16) rfl rfl ?_
  exact fx_reti rfl rfl rfl
theorem wo_115n (S : fS h) (H116 : am_ev (d + 5) 116 0 (am_ent [.ref 40, .int S0] 2) [] h (some (iv 0), h)) : am_ev (d + 6) 115 0 (am_ent [.ref 40, .int S0] 2) [] h (some (iv (-2)), h) := by
  show am_ev (d + 6) 115 0 [.ref 40, .int S0] [] h _
  refine am_ev.step (pc' := 1) rfl rfl ?_
  refine am_ev.step (pc' := 2) rfl rfl ?_
  refine ax_call (z := 116) (p' := 5) (as := [_, _]) rfl (Or.inr (Or.inl ⟨_, rfl⟩)) rfl rfl rfl rfl rfl rfl (S.ob rfl) rfl H116 rfl ?_
  refine fx_z_ne_F (pF := 8) rfl (by omega) rfl (by omega) ?_
  refine fx_bip (p' := 10) rfl rfl rfl ?_
  exact fx_reti rfl rfl rfl
theorem wo_115y (S : fS h) (H116 : am_ev (d + 5) 116 0 (am_ent [.ref 40, .int S0] 2) [] h (some (iv 1), h)) (H108 : am_ev (d + 5) 108 0 (am_ent [.ref 40, .int S0] 4) [] h (some (iv A), g)) (Sg : fS g) (v13 : g.2.2.2 40 13 = iv n) (H117 : am_ev (d + 5) 117 0 (am_ent [.ref 63, .int S0, .ref 74, iv n, .ref 43] 10) [] g (some (iv w), G)) : am_ev (d + 6) 115 0 (am_ent [.ref 40, .int S0] 2) [] h (some (iv w), G) := by
  show am_ev (d + 6) 115 0 [.ref 40, .int S0] [] h _
  refine am_ev.step (pc' := 1) rfl rfl ?_
  refine am_ev.step (pc' := 2) rfl rfl ?_
  refine ax_call (z := 116) (p' := 5) (as := [_, _]) rfl (Or.inr (Or.inl ⟨_, rfl⟩)) rfl rfl rfl rfl rfl rfl (S.ob rfl) rfl H116 rfl ?_
  refine fx_z_ne_T (pT := 11) rfl (by omega) rfl (by omega) ?_
  refine am_ev.step (pc' := 12) rfl rfl ?_
  refine am_ev.step (pc' := 13) rfl rfl ?_
  refine ax_call (z := 108) (p' := 16) (as := [_, _]) rfl (Or.inr (Or.inl ⟨_, rfl⟩)) rfl rfl rfl rfl rfl rfl (S.ob rfl) rfl H108 rfl ?_
  refine am_ev.step (pc' := 17) rfl rfl ?_
  refine am_ev.step (pc' := 18) rfl rfl ?_
  refine ax_gf (p' := 21) rfl rfl (Sg.ob rfl) (Sg.rf rfl rfl) ?_
  refine am_ev.step (pc' := 22) rfl rfl ?_
  refine am_ev.step (pc' := 23) rfl rfl ?_
  refine ax_gf (p' := 26) rfl rfl (Sg.ob rfl) (Sg.rf rfl rfl) ?_
  refine am_ev.step (pc' := 27) rfl rfl ?_
  refine ax_gf (p' := 30) rfl rfl (Sg.ob rfl) v13 ?_
  refine am_ev.step (pc' := 31) rfl rfl ?_
  refine ax_gf (p' := 34) rfl rfl (Sg.ob rfl) (Sg.rf rfl rfl) ?_
  refine ax_call (z := 117) (p' := 37) (as := [_, _, _, _, _]) rfl (Or.inr (Or.inl ⟨_, rfl⟩)) rfl rfl rfl rfl rfl rfl (Sg.ob rfl) rfl H117 rfl ?_
  exact fx_reti rfl rfl rfl
theorem wm_fe (hi : i = 20) {x : Option Value × am_H} (q9 : am_ev d 236 45 [.ref 78, .int S0, iv 1, iv 0, x4] [] g x) : am_ev d 236 24 [.ref 78, .int S0, iv 1, iv ((i : Int)), x4] [] g x := by
  refine am_ev.step (pc' := 25) rfl rfl ?_
  refine fx_bip (p' := 27) rfl rfl rfl ?_
  refine fx_c_ge_T (pT := 43) rfl (by omega) (by omega) rfl (by omega) ?_
  refine am_ev.step (pc' := 44) rfl rfl ?_
  refine am_ev.step (pc' := 45) (ls' := [.ref 78, .int S0, iv 1, iv 0, x4]) rfl rfl ?_
  exact q9
theorem wm_fs (S : fS g) (hi : i < 20) {x : Option Value × am_H} (q9 : am_ev d 236 24 [.ref 78, .int S0, iv 1, iv ((i + 1 : Nat) : Int), x4] [] (am_put g 122 i (iv 0)) x) : am_ev d 236 24 [.ref 78, .int S0, iv 1, iv ((i : Int)), x4] [] g x := by
  refine am_ev.step (pc' := 25) rfl rfl ?_
  refine fx_bip (p' := 27) rfl rfl rfl ?_
  refine fx_c_ge_F (pF := 30) rfl (by omega) (by omega) rfl (by omega) ?_
  refine am_ev.step (pc' := 31) rfl rfl ?_
  refine ax_gf (p' := 34) rfl rfl (S.ob rfl) (S.rf rfl rfl) ?_
  refine am_ev.step (pc' := 35) rfl rfl ?_
  refine am_ev.step (pc' := 36) rfl rfl ?_
  refine ax_iastore (p' := 37) rfl rfl (S.wr (k := i) rfl rfl rfl rfl (by omega)) ?_
  refine fx_inc (p' := 40) (e := ((i : Int) + 1)) (ls' := [.ref 78, .int S0, iv 1, iv ((i : Int) + 1), x4]) rfl rfl rfl (by omega) rfl ?_
  refine am_ev.step (pc' := 24) rfl rfl ?_
  exact (rr_n ▸ q9)
theorem wm_s (S : fS g) (v83 : g.2.2.2 81 3 = iv V3) {x : Option Value × am_H} (q9 : am_ev d 236 24 [.ref 78, .int S0, iv 1, iv 0, am_ph] [] (am_put (am_put (am_put g 78 62 (iv (V3))) 78 63 (iv 0)) 78 64 (iv 0)) x) : am_ev d 236 0 (am_ent [.ref 78, .int S0] 5) [] g x := by
  show am_ev d 236 0 [.ref 78, .int S0, am_ph, am_ph, am_ph] [] g _
  refine am_ev.step (pc' := 1) rfl rfl ?_
  refine am_ev.step (pc' := 2) rfl rfl ?_
  refine ax_gf (p' := 5) rfl rfl (S.ob rfl) (S.rf rfl rfl) ?_
  refine am_ev.step (pc' := 6) rfl rfl ?_
  refine ax_iaload (p' := 7) rfl rfl (S.rd (k := 3) rfl rfl rfl rfl rfl (by decide) v83) ?_
  refine ax_pf (p' := 10) rfl rfl (S.ob rfl) rfl ?_
  refine am_ev.step (pc' := 11) rfl rfl ?_
  refine am_ev.step (pc' := 12) rfl rfl ?_
  refine ax_pf (p' := 15) rfl rfl (fO (S.ob rfl)) rfl ?_
  refine am_ev.step (pc' := 16) rfl rfl ?_
  refine am_ev.step (pc' := 17) rfl rfl ?_
  refine ax_pf (p' := 20) rfl rfl (fO (fO (S.ob rfl))) rfl ?_
  refine am_ev.step (pc' := 21) rfl rfl ?_
  refine am_ev.step (pc' := 22) (ls' := [.ref 78, .int S0, iv 1, am_ph, am_ph]) rfl rfl ?_
  refine am_ev.step (pc' := 23) rfl rfl ?_
  refine am_ev.step (pc' := 24) (ls' := [.ref 78, .int S0, iv 1, iv 0, am_ph]) rfl rfl ?_
  exact q9
theorem wm_e1 (S : fS g) (v53 : g.2.2.2 78 53 = iv n) (hn : n ≤ 14) (v62 : g.2.2.2 78 62 = iv p) (v63 : g.2.2.2 78 63 = iv f) (v814 : g.2.2.2 81 4 = iv V4) (v811 : g.2.2.2 81 1 = iv V1) (v815 : g.2.2.2 81 5 = iv F) (hm : V4 * V1 = M) (bV : 2 ≤ V1 ∧ V1 ≤ 32 ∧ 1 ≤ V4 ∧ V4 ≤ 40) (bF : 0 ≤ F ∧ F ≤ 99999) (bM : 0 ≤ M ∧ M ≤ 2000) (bp : 0 ≤ p ∧ p ≤ 500) (bf : 0 ≤ f ∧ f ≤ 5000000) (hp : p ≤ M) (hf : f ≤ F) (hc : c = n) : am_ev d 236 45 [.ref 78, .int S0, iv 1, iv ((c : Int)), x4] [] g (some (iv 1), g) := by
  refine am_ev.step (pc' := 46) rfl rfl ?_
  refine am_ev.step (pc' := 47) rfl rfl ?_
  refine ax_gf (p' := 50) rfl rfl (S.ob rfl) v53 ?_
  refine fx_c_ge_T (pT := 181) rfl (by omega) (by omega) rfl (by omega) ?_
  refine am_ev.step (pc' := 182) rfl rfl ?_
  refine fx_z_eq_F (pF := 185) rfl (by omega) rfl (by omega) ?_
  refine am_ev.step (pc' := 186) rfl rfl ?_
  refine ax_gf (p' := 189) rfl rfl (S.ob rfl) v62 ?_
  refine am_ev.step (pc' := 190) rfl rfl ?_
  refine ax_gf (p' := 193) rfl rfl (S.ob rfl) (S.rf rfl rfl) ?_
  refine am_ev.step (pc' := 194) rfl rfl ?_
  refine ax_iaload (p' := 195) rfl rfl (S.rd (k := 4) rfl rfl rfl rfl rfl (by decide) v814) ?_
  refine am_ev.step (pc' := 196) rfl rfl ?_
  refine ax_gf (p' := 199) rfl rfl (S.ob rfl) (S.rf rfl rfl) ?_
  refine am_ev.step (pc' := 200) rfl rfl ?_
  refine ax_iaload (p' := 201) rfl rfl (S.rd (k := 1) rfl rfl rfl rfl rfl (by decide) v811) ?_
  refine fx_mul (p' := 202) (e := M) rfl rfl hm ?_
  refine fx_c_gt_F (pF := 205) rfl (by omega) (by omega) rfl (by omega) ?_
  refine am_ev.step (pc' := 206) rfl rfl ?_
  refine ax_gf (p' := 209) rfl rfl (S.ob rfl) v63 ?_
  refine am_ev.step (pc' := 210) rfl rfl ?_
  refine ax_gf (p' := 213) rfl rfl (S.ob rfl) (S.rf rfl rfl) ?_
  refine am_ev.step (pc' := 214) rfl rfl ?_
  refine ax_iaload (p' := 215) rfl rfl (S.rd (k := 5) rfl rfl rfl rfl rfl (by decide) v815) ?_
  refine fx_c_gt_F (pF := 218) rfl (by omega) (by omega) rfl (by omega) ?_
  refine am_ev.step (pc' := 219) rfl rfl ?_
  refine am_ev.step (pc' := 223) rfl rfl ?_
  exact fx_reti rfl rfl rfl
theorem wm_e2 (S : fS g) (v53 : g.2.2.2 78 53 = iv n) (hn : n ≤ 14) (v62 : g.2.2.2 78 62 = iv p) (v63 : g.2.2.2 78 63 = iv f) (v814 : g.2.2.2 81 4 = iv V4) (v811 : g.2.2.2 81 1 = iv V1) (v815 : g.2.2.2 81 5 = iv F) (hm : V4 * V1 = M) (bV : 2 ≤ V1 ∧ V1 ≤ 32 ∧ 1 ≤ V4 ∧ V4 ≤ 40) (bF : 0 ≤ F ∧ F ≤ 99999) (bM : 0 ≤ M ∧ M ≤ 2000) (bp : 0 ≤ p ∧ p ≤ 500) (bf : 0 ≤ f ∧ f ≤ 5000000) (hp : ¬ p ≤ M) (hc : c = n) : am_ev d 236 45 [.ref 78, .int S0, iv 1, iv ((c : Int)), x4] [] g (some (iv 0), g) := by
  refine am_ev.step (pc' := 46) rfl rfl ?_
  refine am_ev.step (pc' := 47) rfl rfl ?_
  refine ax_gf (p' := 50) rfl rfl (S.ob rfl) v53 ?_
  refine fx_c_ge_T (pT := 181) rfl (by omega) (by omega) rfl (by omega) ?_
  refine am_ev.step (pc' := 182) rfl rfl ?_
  refine fx_z_eq_F (pF := 185) rfl (by omega) rfl (by omega) ?_
  refine am_ev.step (pc' := 186) rfl rfl ?_
  refine ax_gf (p' := 189) rfl rfl (S.ob rfl) v62 ?_
  refine am_ev.step (pc' := 190) rfl rfl ?_
  refine ax_gf (p' := 193) rfl rfl (S.ob rfl) (S.rf rfl rfl) ?_
  refine am_ev.step (pc' := 194) rfl rfl ?_
  refine ax_iaload (p' := 195) rfl rfl (S.rd (k := 4) rfl rfl rfl rfl rfl (by decide) v814) ?_
  refine am_ev.step (pc' := 196) rfl rfl ?_
  refine ax_gf (p' := 199) rfl rfl (S.ob rfl) (S.rf rfl rfl) ?_
  refine am_ev.step (pc' := 200) rfl rfl ?_
  refine ax_iaload (p' := 201) rfl rfl (S.rd (k := 1) rfl rfl rfl rfl rfl (by decide) v811) ?_
  refine fx_mul (p' := 202) (e := M) rfl rfl hm ?_
  refine fx_c_gt_T (pT := 222) rfl (by omega) (by omega) rfl (by omega) ?_
  refine am_ev.step (pc' := 223) rfl rfl ?_
  exact fx_reti rfl rfl rfl
theorem wm_e3 (S : fS g) (v53 : g.2.2.2 78 53 = iv n) (hn : n ≤ 14) (v62 : g.2.2.2 78 62 = iv p) (v63 : g.2.2.2 78 63 = iv f) (v814 : g.2.2.2 81 4 = iv V4) (v811 : g.2.2.2 81 1 = iv V1) (v815 : g.2.2.2 81 5 = iv F) (hm : V4 * V1 = M) (bV : 2 ≤ V1 ∧ V1 ≤ 32 ∧ 1 ≤ V4 ∧ V4 ≤ 40) (bF : 0 ≤ F ∧ F ≤ 99999) (bM : 0 ≤ M ∧ M ≤ 2000) (bp : 0 ≤ p ∧ p ≤ 500) (bf : 0 ≤ f ∧ f ≤ 5000000) (hp : p ≤ M) (hf : ¬ f ≤ F) (hc : c = n) : am_ev d 236 45 [.ref 78, .int S0, iv 1, iv ((c : Int)), x4] [] g (some (iv 0), g) := by
  refine am_ev.step (pc' := 46) rfl rfl ?_
  refine am_ev.step (pc' := 47) rfl rfl ?_
  refine ax_gf (p' := 50) rfl rfl (S.ob rfl) v53 ?_
  refine fx_c_ge_T (pT := 181) rfl (by omega) (by omega) rfl (by omega) ?_
  refine am_ev.step (pc' := 182) rfl rfl ?_
  refine fx_z_eq_F (pF := 185) rfl (by omega) rfl (by omega) ?_
  refine am_ev.step (pc' := 186) rfl rfl ?_
  refine ax_gf (p' := 189) rfl rfl (S.ob rfl) v62 ?_
  refine am_ev.step (pc' := 190) rfl rfl ?_
  refine ax_gf (p' := 193) rfl rfl (S.ob rfl) (S.rf rfl rfl) ?_
  refine am_ev.step (pc' := 194) rfl rfl ?_
  refine ax_iaload (p' := 195) rfl rfl (S.rd (k := 4) rfl rfl rfl rfl rfl (by decide) v814) ?_
  refine am_ev.step (pc' := 196) rfl rfl ?_
  refine ax_gf (p' := 199) rfl rfl (S.ob rfl) (S.rf rfl rfl) ?_
  refine am_ev.step (pc' := 200) rfl rfl ?_
  refine ax_iaload (p' := 201) rfl rfl (S.rd (k := 1) rfl rfl rfl rfl rfl (by decide) v811) ?_
  refine fx_mul (p' := 202) (e := M) rfl rfl hm ?_
  refine fx_c_gt_F (pF := 205) rfl (by omega) (by omega) rfl (by omega) ?_
  refine am_ev.step (pc' := 206) rfl rfl ?_
  refine ax_gf (p' := 209) rfl rfl (S.ob rfl) v63 ?_
  refine am_ev.step (pc' := 210) rfl rfl ?_
  refine ax_gf (p' := 213) rfl rfl (S.ob rfl) (S.rf rfl rfl) ?_
  refine am_ev.step (pc' := 214) rfl rfl ?_
  refine ax_iaload (p' := 215) rfl rfl (S.rd (k := 5) rfl rfl rfl rfl rfl (by decide) v815) ?_
  refine fx_c_gt_T (pT := 222) rfl (by omega) (by omega) rfl (by omega) ?_
  refine am_ev.step (pc' := 223) rfl rfl ?_
  exact fx_reti rfl rfl rfl
theorem wm_z (S : fS g) (v53 : g.2.2.2 78 53 = iv n) (hn : n ≤ 14) (hc : c ≤ n) : am_ev d 236 45 [.ref 78, .int S0, iv 0, iv ((c : Int)), x4] [] g (some (iv 0), g) := by
  refine am_ev.step (pc' := 46) rfl rfl ?_
  refine am_ev.step (pc' := 47) rfl rfl ?_
  refine ax_gf (p' := 50) rfl rfl (S.ob rfl) v53 ?_
  refine fx_c_ge (pT := 181) (pF := 53) rfl (by omega) (by omega) rfl rfl (fun c1 => ?_) (fun c1 => ?_)
  · refine am_ev.step (pc' := 182) rfl rfl ?_
    refine fx_z_eq_T (pT := 222) rfl (by omega) rfl (by omega) ?_
    refine am_ev.step (pc' := 223) rfl rfl ?_
    exact fx_reti rfl rfl rfl
  · refine am_ev.step (pc' := 54) rfl rfl ?_
    refine fx_z_eq_T (pT := 181) rfl (by omega) rfl (by omega) ?_
    refine am_ev.step (pc' := 182) rfl rfl ?_
    refine fx_z_eq_T (pT := 222) rfl (by omega) rfl (by omega) ?_
    refine am_ev.step (pc' := 223) rfl rfl ?_
    exact fx_reti rfl rfl rfl
theorem wm_n (S : fS g) (v53 : g.2.2.2 78 53 = iv n) (hn : n ≤ 14) (hc : c < n) (qb : bt S0 c = false) {x : Option Value × am_H} (q9 : am_ev d 236 45 [.ref 78, .int S0, iv 1, iv ((c + 1 : Nat) : Int), x4] [] g x) : am_ev d 236 45 [.ref 78, .int S0, iv 1, iv ((c : Int)), x4] [] g x := by
  refine am_ev.step (pc' := 46) rfl rfl ?_
  refine am_ev.step (pc' := 47) rfl rfl ?_
  refine ax_gf (p' := 50) rfl rfl (S.ob rfl) v53 ?_
  refine fx_c_ge_F (pF := 53) rfl (by omega) (by omega) rfl (by omega) ?_
  refine am_ev.step (pc' := 54) rfl rfl ?_
  refine fx_z_eq_F (pF := 57) rfl (by omega) rfl (by omega) ?_
  refine am_ev.step (pc' := 58) rfl rfl ?_
  refine am_ev.step (pc' := 59) rfl rfl ?_
  refine am_ev.step (pc' := 60) rfl rfl ?_
  refine am_ev.step (pc' := 61) rfl rfl ?_
  refine am_ev.step (pc' := 62) rfl rfl ?_
  refine ax_z_ne_N (p' := 65) rfl rfl ((b_sand (by omega)).2 qb) ?_
  refine am_ev.step (pc' := 175) rfl rfl ?_
  refine fx_inc (p' := 178) (e := ((c : Int) + 1)) (ls' := [.ref 78, .int S0, iv 1, iv ((c : Int) + 1), x4]) rfl rfl rfl (by omega) rfl ?_
  refine am_ev.step (pc' := 45) rfl rfl ?_
  exact (rr_n ▸ q9)
theorem wm_t0 (S : fS g) (v53 : g.2.2.2 78 53 = iv n) (hn : n ≤ 14) (v117 : g.2.2.2 117 c = iv q) (hq : q < 40) (v86 : g.2.2.2 86 q = iv po) (hpo : po < 20) (vT : g.2.2.2 122 po = iv T) (v62 : g.2.2.2 78 62 = iv p) (v120 : g.2.2.2 120 c = iv pg) (v63 : g.2.2.2 78 63 = iv f) (v121 : g.2.2.2 121 c = iv fe) (v64 : g.2.2.2 78 64 = iv w) (v89 : g.2.2.2 89 q = iv wo) (v119 : g.2.2.2 119 c = iv A) (v816 : g.2.2.2 81 6 = iv mo) (bT : 0 ≤ T ∧ T ≤ 14) (bm : 1 ≤ mo ∧ mo ≤ 9) (bp : 0 ≤ p ∧ p ≤ 500) (bf : 0 ≤ f ∧ f ≤ 5000000) (bw : 0 ≤ w ∧ w ≤ 2000) (bpg : 0 ≤ pg ∧ pg ≤ 30) (bfe : 0 ≤ fe ∧ fe ≤ 299970) (bwo : 0 ≤ wo ∧ wo ≤ 99) (hA : A = 0) (hc : c < n) (qb : bt S0 c = true) {x : Option Value × am_H} (q9 : am_ev d 236 45 [.ref 78, .int S0, iv 0, iv ((c + 1 : Nat) : Int), iv ((q : Int))] [] (am_put (am_put (am_put (am_put g 122 po (iv (T + 1))) 78 62 (iv (p + pg))) 78 63 (iv (f + fe))) 78 64 (iv (w + wo))) x) : am_ev d 236 45 [.ref 78, .int S0, iv 1, iv ((c : Int)), x4] [] g x := by
  refine am_ev.step (pc' := 46) rfl rfl ?_
  refine am_ev.step (pc' := 47) rfl rfl ?_
  refine ax_gf (p' := 50) rfl rfl (S.ob rfl) v53 ?_
  refine fx_c_ge_F (pF := 53) rfl (by omega) (by omega) rfl (by omega) ?_
  refine am_ev.step (pc' := 54) rfl rfl ?_
  refine fx_z_eq_F (pF := 57) rfl (by omega) rfl (by omega) ?_
  refine am_ev.step (pc' := 58) rfl rfl ?_
  refine am_ev.step (pc' := 59) rfl rfl ?_
  refine am_ev.step (pc' := 60) rfl rfl ?_
  refine am_ev.step (pc' := 61) rfl rfl ?_
  refine am_ev.step (pc' := 62) rfl rfl ?_
  refine ax_z_ne_T (p' := 68) rfl rfl (fun z => by rw [(b_sand (by omega)).1 z] at qb; cases qb) ?_
  refine am_ev.step (pc' := 69) rfl rfl ?_
  refine ax_gf (p' := 72) rfl rfl (S.ob rfl) (S.rf rfl rfl) ?_
  refine am_ev.step (pc' := 73) rfl rfl ?_
  refine ax_iaload (p' := 74) rfl rfl (S.rd (k := c) rfl rfl rfl rfl rfl (by omega) v117) ?_
  refine am_ev.step (pc' := 76) (ls' := [.ref 78, .int S0, iv 1, iv ((c : Int)), iv ((q : Int))]) rfl rfl ?_
  refine am_ev.step (pc' := 77) rfl rfl ?_
  refine ax_gf (p' := 80) rfl rfl (S.ob rfl) (S.rf rfl rfl) ?_
  refine am_ev.step (pc' := 81) rfl rfl ?_
  refine ax_gf (p' := 84) rfl rfl (S.ob rfl) (S.rf rfl rfl) ?_
  refine am_ev.step (pc' := 86) rfl rfl ?_
  refine ax_iaload (p' := 87) rfl rfl (S.rd (k := q) rfl rfl rfl rfl rfl (by omega) v86) ?_
  refine am_ev.step (pc' := 88) rfl rfl ?_
  refine ax_iaload (p' := 89) rfl rfl (S.rd (k := po) rfl rfl rfl rfl rfl (by omega) vT) ?_
  refine am_ev.step (pc' := 90) rfl rfl ?_
  refine fx_add (p' := 91) (e := (T + 1)) rfl rfl (by omega) ?_
  refine ax_iastore (p' := 92) rfl rfl (S.wr (k := po) rfl rfl rfl rfl (by omega)) ?_
  refine am_ev.step (pc' := 93) rfl rfl ?_
  refine am_ev.step (pc' := 94) rfl rfl ?_
  refine ax_gf (p' := 97) rfl rfl (fO (S.ob rfl)) (ax_put_o (Or.inl (by decide)) v62) ?_
  refine am_ev.step (pc' := 98) rfl rfl ?_
  refine ax_gf (p' := 101) rfl rfl (fO (S.ob rfl)) (ax_put_o (Or.inl (by decide)) (S.rf rfl rfl)) ?_
  refine am_ev.step (pc' := 102) rfl rfl ?_
  refine ax_iaload (p' := 103) rfl rfl ((S.pa rfl).rd (k := c) rfl rfl rfl rfl rfl (by omega) (ax_put_o (Or.inl (by decide)) v120)) ?_
  refine fx_add (p' := 104) (e := (p + pg)) rfl rfl (by omega) ?_
  refine ax_pf (p' := 107) rfl rfl (fO (S.ob rfl)) rfl ?_
  refine am_ev.step (pc' := 108) rfl rfl ?_
  refine am_ev.step (pc' := 109) rfl rfl ?_
  refine ax_gf (p' := 112) rfl rfl (fO (fO (S.ob rfl))) (ax_put_o (Or.inr (by decide)) (ax_put_o (Or.inl (by decide)) v63)) ?_
  refine am_ev.step (pc' := 113) rfl rfl ?_
  refine ax_gf (p' := 116) rfl rfl (fO (fO (S.ob rfl))) (ax_put_o (Or.inr (by decide)) (ax_put_o (Or.inl (by decide)) (S.rf rfl rfl))) ?_
  refine am_ev.step (pc' := 117) rfl rfl ?_
  refine ax_iaload (p' := 118) rfl rfl (((S.pa rfl).po rfl rfl).rd (k := c) rfl rfl rfl rfl rfl (by omega) (ax_put_o (Or.inl (by decide)) (ax_put_o (Or.inl (by decide)) v121))) ?_
  refine fx_add (p' := 119) (e := (f + fe)) rfl rfl (by omega) ?_
  refine ax_pf (p' := 122) rfl rfl (fO (fO (S.ob rfl))) rfl ?_
  refine am_ev.step (pc' := 123) rfl rfl ?_
  refine am_ev.step (pc' := 124) rfl rfl ?_
  refine ax_gf (p' := 127) rfl rfl (fO (fO (fO (S.ob rfl)))) (ax_put_o (Or.inr (by decide)) (ax_put_o (Or.inr (by decide)) (ax_put_o (Or.inl (by decide)) v64))) ?_
  refine am_ev.step (pc' := 128) rfl rfl ?_
  refine ax_gf (p' := 131) rfl rfl (fO (fO (fO (S.ob rfl)))) (ax_put_o (Or.inr (by decide)) (ax_put_o (Or.inr (by decide)) (ax_put_o (Or.inl (by decide)) (S.rf rfl rfl)))) ?_
  refine am_ev.step (pc' := 133) rfl rfl ?_
  refine ax_iaload (p' := 134) rfl rfl ((((S.pa rfl).po rfl rfl).po rfl rfl).rd (k := q) rfl rfl rfl rfl rfl (by omega) (ax_put_o (Or.inl (by decide)) (ax_put_o (Or.inl (by decide)) (ax_put_o (Or.inl (by decide)) v89)))) ?_
  refine fx_add (p' := 135) (e := (w + wo)) rfl rfl (by omega) ?_
  refine ax_pf (p' := 138) rfl rfl (fO (fO (fO (S.ob rfl)))) rfl ?_
  refine am_ev.step (pc' := 139) rfl rfl ?_
  refine ax_gf (p' := 142) rfl rfl (fO (fO (fO (fO (S.ob rfl))))) (ax_put_o (Or.inr (by decide)) (ax_put_o (Or.inr (by decide)) (ax_put_o (Or.inr (by decide)) (ax_put_o (Or.inl (by decide)) (S.rf rfl rfl))))) ?_
  refine am_ev.step (pc' := 143) rfl rfl ?_
  refine ax_baload (p' := 144) rfl rfl (((((S.pa rfl).po rfl rfl).po rfl rfl).po rfl rfl).rd (k := c) rfl rfl rfl rfl rfl (by omega) (ax_put_o (Or.inl (by decide)) (ax_put_o (Or.inl (by decide)) (ax_put_o (Or.inl (by decide)) (ax_put_o (Or.inl (by decide)) v119))))) ?_
  refine fx_z_eq_T (pT := 173) rfl (by omega) rfl (by omega) ?_
  refine am_ev.step (pc' := 174) rfl rfl ?_
  refine am_ev.step (pc' := 175) (ls' := [.ref 78, .int S0, iv 0, iv ((c : Int)), iv ((q : Int))]) rfl rfl ?_
  refine fx_inc (p' := 178) (e := ((c : Int) + 1)) (ls' := [.ref 78, .int S0, iv 0, iv ((c : Int) + 1), iv ((q : Int))]) rfl rfl rfl (by omega) rfl ?_
  refine am_ev.step (pc' := 45) rfl rfl ?_
  exact (rr_n ▸ q9)
theorem wm_t1 (S : fS g) (v53 : g.2.2.2 78 53 = iv n) (hn : n ≤ 14) (v117 : g.2.2.2 117 c = iv q) (hq : q < 40) (v86 : g.2.2.2 86 q = iv po) (hpo : po < 20) (vT : g.2.2.2 122 po = iv T) (v62 : g.2.2.2 78 62 = iv p) (v120 : g.2.2.2 120 c = iv pg) (v63 : g.2.2.2 78 63 = iv f) (v121 : g.2.2.2 121 c = iv fe) (v64 : g.2.2.2 78 64 = iv w) (v89 : g.2.2.2 89 q = iv wo) (v119 : g.2.2.2 119 c = iv A) (v816 : g.2.2.2 81 6 = iv mo) (bT : 0 ≤ T ∧ T ≤ 14) (bm : 1 ≤ mo ∧ mo ≤ 9) (bp : 0 ≤ p ∧ p ≤ 500) (bf : 0 ≤ f ∧ f ≤ 5000000) (bw : 0 ≤ w ∧ w ≤ 2000) (bpg : 0 ≤ pg ∧ pg ≤ 30) (bfe : 0 ≤ fe ∧ fe ≤ 299970) (bwo : 0 ≤ wo ∧ wo ≤ 99) (hA : A = 1) (hT : ¬ T < mo) (hc : c < n) (qb : bt S0 c = true) {x : Option Value × am_H} (q9 : am_ev d 236 45 [.ref 78, .int S0, iv 0, iv ((c + 1 : Nat) : Int), iv ((q : Int))] [] (am_put (am_put (am_put (am_put g 122 po (iv (T + 1))) 78 62 (iv (p + pg))) 78 63 (iv (f + fe))) 78 64 (iv (w + wo))) x) : am_ev d 236 45 [.ref 78, .int S0, iv 1, iv ((c : Int)), x4] [] g x := by
  refine am_ev.step (pc' := 46) rfl rfl ?_
  refine am_ev.step (pc' := 47) rfl rfl ?_
  refine ax_gf (p' := 50) rfl rfl (S.ob rfl) v53 ?_
  refine fx_c_ge_F (pF := 53) rfl (by omega) (by omega) rfl (by omega) ?_
  refine am_ev.step (pc' := 54) rfl rfl ?_
  refine fx_z_eq_F (pF := 57) rfl (by omega) rfl (by omega) ?_
  refine am_ev.step (pc' := 58) rfl rfl ?_
  refine am_ev.step (pc' := 59) rfl rfl ?_
  refine am_ev.step (pc' := 60) rfl rfl ?_
  refine am_ev.step (pc' := 61) rfl rfl ?_
  refine am_ev.step (pc' := 62) rfl rfl ?_
  refine ax_z_ne_T (p' := 68) rfl rfl (fun z => by rw [(b_sand (by omega)).1 z] at qb; cases qb) ?_
  refine am_ev.step (pc' := 69) rfl rfl ?_
  refine ax_gf (p' := 72) rfl rfl (S.ob rfl) (S.rf rfl rfl) ?_
  refine am_ev.step (pc' := 73) rfl rfl ?_
  refine ax_iaload (p' := 74) rfl rfl (S.rd (k := c) rfl rfl rfl rfl rfl (by omega) v117) ?_
  refine am_ev.step (pc' := 76) (ls' := [.ref 78, .int S0, iv 1, iv ((c : Int)), iv ((q : Int))]) rfl rfl ?_
  refine am_ev.step (pc' := 77) rfl rfl ?_
  refine ax_gf (p' := 80) rfl rfl (S.ob rfl) (S.rf rfl rfl) ?_
  refine am_ev.step (pc' := 81) rfl rfl ?_
  refine ax_gf (p' := 84) rfl rfl (S.ob rfl) (S.rf rfl rfl) ?_
  refine am_ev.step (pc' := 86) rfl rfl ?_
  refine ax_iaload (p' := 87) rfl rfl (S.rd (k := q) rfl rfl rfl rfl rfl (by omega) v86) ?_
  refine am_ev.step (pc' := 88) rfl rfl ?_
  refine ax_iaload (p' := 89) rfl rfl (S.rd (k := po) rfl rfl rfl rfl rfl (by omega) vT) ?_
  refine am_ev.step (pc' := 90) rfl rfl ?_
  refine fx_add (p' := 91) (e := (T + 1)) rfl rfl (by omega) ?_
  refine ax_iastore (p' := 92) rfl rfl (S.wr (k := po) rfl rfl rfl rfl (by omega)) ?_
  refine am_ev.step (pc' := 93) rfl rfl ?_
  refine am_ev.step (pc' := 94) rfl rfl ?_
  refine ax_gf (p' := 97) rfl rfl (fO (S.ob rfl)) (ax_put_o (Or.inl (by decide)) v62) ?_
  refine am_ev.step (pc' := 98) rfl rfl ?_
  refine ax_gf (p' := 101) rfl rfl (fO (S.ob rfl)) (ax_put_o (Or.inl (by decide)) (S.rf rfl rfl)) ?_
  refine am_ev.step (pc' := 102) rfl rfl ?_
  refine ax_iaload (p' := 103) rfl rfl ((S.pa rfl).rd (k := c) rfl rfl rfl rfl rfl (by omega) (ax_put_o (Or.inl (by decide)) v120)) ?_
  refine fx_add (p' := 104) (e := (p + pg)) rfl rfl (by omega) ?_
  refine ax_pf (p' := 107) rfl rfl (fO (S.ob rfl)) rfl ?_
  refine am_ev.step (pc' := 108) rfl rfl ?_
  refine am_ev.step (pc' := 109) rfl rfl ?_
  refine ax_gf (p' := 112) rfl rfl (fO (fO (S.ob rfl))) (ax_put_o (Or.inr (by decide)) (ax_put_o (Or.inl (by decide)) v63)) ?_
  refine am_ev.step (pc' := 113) rfl rfl ?_
  refine ax_gf (p' := 116) rfl rfl (fO (fO (S.ob rfl))) (ax_put_o (Or.inr (by decide)) (ax_put_o (Or.inl (by decide)) (S.rf rfl rfl))) ?_
  refine am_ev.step (pc' := 117) rfl rfl ?_
  refine ax_iaload (p' := 118) rfl rfl (((S.pa rfl).po rfl rfl).rd (k := c) rfl rfl rfl rfl rfl (by omega) (ax_put_o (Or.inl (by decide)) (ax_put_o (Or.inl (by decide)) v121))) ?_
  refine fx_add (p' := 119) (e := (f + fe)) rfl rfl (by omega) ?_
  refine ax_pf (p' := 122) rfl rfl (fO (fO (S.ob rfl))) rfl ?_
  refine am_ev.step (pc' := 123) rfl rfl ?_
  refine am_ev.step (pc' := 124) rfl rfl ?_
  refine ax_gf (p' := 127) rfl rfl (fO (fO (fO (S.ob rfl)))) (ax_put_o (Or.inr (by decide)) (ax_put_o (Or.inr (by decide)) (ax_put_o (Or.inl (by decide)) v64))) ?_
  refine am_ev.step (pc' := 128) rfl rfl ?_
  refine ax_gf (p' := 131) rfl rfl (fO (fO (fO (S.ob rfl)))) (ax_put_o (Or.inr (by decide)) (ax_put_o (Or.inr (by decide)) (ax_put_o (Or.inl (by decide)) (S.rf rfl rfl)))) ?_
  refine am_ev.step (pc' := 133) rfl rfl ?_
  refine ax_iaload (p' := 134) rfl rfl ((((S.pa rfl).po rfl rfl).po rfl rfl).rd (k := q) rfl rfl rfl rfl rfl (by omega) (ax_put_o (Or.inl (by decide)) (ax_put_o (Or.inl (by decide)) (ax_put_o (Or.inl (by decide)) v89)))) ?_
  refine fx_add (p' := 135) (e := (w + wo)) rfl rfl (by omega) ?_
  refine ax_pf (p' := 138) rfl rfl (fO (fO (fO (S.ob rfl)))) rfl ?_
  refine am_ev.step (pc' := 139) rfl rfl ?_
  refine ax_gf (p' := 142) rfl rfl (fO (fO (fO (fO (S.ob rfl))))) (ax_put_o (Or.inr (by decide)) (ax_put_o (Or.inr (by decide)) (ax_put_o (Or.inr (by decide)) (ax_put_o (Or.inl (by decide)) (S.rf rfl rfl))))) ?_
  refine am_ev.step (pc' := 143) rfl rfl ?_
  refine ax_baload (p' := 144) rfl rfl (((((S.pa rfl).po rfl rfl).po rfl rfl).po rfl rfl).rd (k := c) rfl rfl rfl rfl rfl (by omega) (ax_put_o (Or.inl (by decide)) (ax_put_o (Or.inl (by decide)) (ax_put_o (Or.inl (by decide)) (ax_put_o (Or.inl (by decide)) v119))))) ?_
  refine fx_z_eq_F (pF := 147) rfl (by omega) rfl (by omega) ?_
  refine am_ev.step (pc' := 148) rfl rfl ?_
  refine ax_gf (p' := 151) rfl rfl (fO (fO (fO (fO (S.ob rfl))))) (ax_put_o (Or.inr (by decide)) (ax_put_o (Or.inr (by decide)) (ax_put_o (Or.inr (by decide)) (ax_put_o (Or.inl (by decide)) (S.rf rfl rfl))))) ?_
  refine am_ev.step (pc' := 152) rfl rfl ?_
  refine ax_gf (p' := 155) rfl rfl (fO (fO (fO (fO (S.ob rfl))))) (ax_put_o (Or.inr (by decide)) (ax_put_o (Or.inr (by decide)) (ax_put_o (Or.inr (by decide)) (ax_put_o (Or.inl (by decide)) (S.rf rfl rfl))))) ?_
  refine am_ev.step (pc' := 157) rfl rfl ?_
  refine ax_iaload (p' := 158) rfl rfl (((((S.pa rfl).po rfl rfl).po rfl rfl).po rfl rfl).rd (k := q) rfl rfl rfl rfl rfl (by omega) (ax_put_o (Or.inl (by decide)) (ax_put_o (Or.inl (by decide)) (ax_put_o (Or.inl (by decide)) (ax_put_o (Or.inl (by decide)) v86))))) ?_
  refine ax_iaload (p' := 159) rfl rfl (((((S.pa rfl).po rfl rfl).po rfl rfl).po rfl rfl).rd (k := po) rfl rfl rfl rfl rfl (by omega) (ax_put_o (Or.inl (by decide)) (ax_put_o (Or.inl (by decide)) (ax_put_o (Or.inl (by decide)) (ax_put_s _ _ _))))) ?_
  refine am_ev.step (pc' := 160) rfl rfl ?_
  refine ax_gf (p' := 163) rfl rfl (fO (fO (fO (fO (S.ob rfl))))) (ax_put_o (Or.inr (by decide)) (ax_put_o (Or.inr (by decide)) (ax_put_o (Or.inr (by decide)) (ax_put_o (Or.inl (by decide)) (S.rf rfl rfl))))) ?_
  refine fx_bip (p' := 165) rfl rfl rfl ?_
  refine ax_iaload (p' := 166) rfl rfl (((((S.pa rfl).po rfl rfl).po rfl rfl).po rfl rfl).rd (k := 6) rfl rfl rfl rfl rfl (by decide) (ax_put_o (Or.inl (by decide)) (ax_put_o (Or.inl (by decide)) (ax_put_o (Or.inl (by decide)) (ax_put_o (Or.inl (by decide)) v816))))) ?_
  refine fx_c_gt_T (pT := 173) rfl (by omega) (by omega) rfl (by omega) ?_
  refine am_ev.step (pc' := 174) rfl rfl ?_
  refine am_ev.step (pc' := 175) (ls' := [.ref 78, .int S0, iv 0, iv ((c : Int)), iv ((q : Int))]) rfl rfl ?_
  refine fx_inc (p' := 178) (e := ((c : Int) + 1)) (ls' := [.ref 78, .int S0, iv 0, iv ((c : Int) + 1), iv ((q : Int))]) rfl rfl rfl (by omega) rfl ?_
  refine am_ev.step (pc' := 45) rfl rfl ?_
  exact (rr_n ▸ q9)
theorem wm_ty (S : fS g) (v53 : g.2.2.2 78 53 = iv n) (hn : n ≤ 14) (v117 : g.2.2.2 117 c = iv q) (hq : q < 40) (v86 : g.2.2.2 86 q = iv po) (hpo : po < 20) (vT : g.2.2.2 122 po = iv T) (v62 : g.2.2.2 78 62 = iv p) (v120 : g.2.2.2 120 c = iv pg) (v63 : g.2.2.2 78 63 = iv f) (v121 : g.2.2.2 121 c = iv fe) (v64 : g.2.2.2 78 64 = iv w) (v89 : g.2.2.2 89 q = iv wo) (v119 : g.2.2.2 119 c = iv A) (v816 : g.2.2.2 81 6 = iv mo) (bT : 0 ≤ T ∧ T ≤ 14) (bm : 1 ≤ mo ∧ mo ≤ 9) (bp : 0 ≤ p ∧ p ≤ 500) (bf : 0 ≤ f ∧ f ≤ 5000000) (bw : 0 ≤ w ∧ w ≤ 2000) (bpg : 0 ≤ pg ∧ pg ≤ 30) (bfe : 0 ≤ fe ∧ fe ≤ 299970) (bwo : 0 ≤ wo ∧ wo ≤ 99) (hA : A = 1) (hT : T < mo) (hc : c < n) (qb : bt S0 c = true) {x : Option Value × am_H} (q9 : am_ev d 236 45 [.ref 78, .int S0, iv 1, iv ((c + 1 : Nat) : Int), iv ((q : Int))] [] (am_put (am_put (am_put (am_put g 122 po (iv (T + 1))) 78 62 (iv (p + pg))) 78 63 (iv (f + fe))) 78 64 (iv (w + wo))) x) : am_ev d 236 45 [.ref 78, .int S0, iv 1, iv ((c : Int)), x4] [] g x := by
  refine am_ev.step (pc' := 46) rfl rfl ?_
  refine am_ev.step (pc' := 47) rfl rfl ?_
  refine ax_gf (p' := 50) rfl rfl (S.ob rfl) v53 ?_
  refine fx_c_ge_F (pF := 53) rfl (by omega) (by omega) rfl (by omega) ?_
  refine am_ev.step (pc' := 54) rfl rfl ?_
  refine fx_z_eq_F (pF := 57) rfl (by omega) rfl (by omega) ?_
  refine am_ev.step (pc' := 58) rfl rfl ?_
  refine am_ev.step (pc' := 59) rfl rfl ?_
  refine am_ev.step (pc' := 60) rfl rfl ?_
  refine am_ev.step (pc' := 61) rfl rfl ?_
  refine am_ev.step (pc' := 62) rfl rfl ?_
  refine ax_z_ne_T (p' := 68) rfl rfl (fun z => by rw [(b_sand (by omega)).1 z] at qb; cases qb) ?_
  refine am_ev.step (pc' := 69) rfl rfl ?_
  refine ax_gf (p' := 72) rfl rfl (S.ob rfl) (S.rf rfl rfl) ?_
  refine am_ev.step (pc' := 73) rfl rfl ?_
  refine ax_iaload (p' := 74) rfl rfl (S.rd (k := c) rfl rfl rfl rfl rfl (by omega) v117) ?_
  refine am_ev.step (pc' := 76) (ls' := [.ref 78, .int S0, iv 1, iv ((c : Int)), iv ((q : Int))]) rfl rfl ?_
  refine am_ev.step (pc' := 77) rfl rfl ?_
  refine ax_gf (p' := 80) rfl rfl (S.ob rfl) (S.rf rfl rfl) ?_
  refine am_ev.step (pc' := 81) rfl rfl ?_
  refine ax_gf (p' := 84) rfl rfl (S.ob rfl) (S.rf rfl rfl) ?_
  refine am_ev.step (pc' := 86) rfl rfl ?_
  refine ax_iaload (p' := 87) rfl rfl (S.rd (k := q) rfl rfl rfl rfl rfl (by omega) v86) ?_
  refine am_ev.step (pc' := 88) rfl rfl ?_
  refine ax_iaload (p' := 89) rfl rfl (S.rd (k := po) rfl rfl rfl rfl rfl (by omega) vT) ?_
  refine am_ev.step (pc' := 90) rfl rfl ?_
  refine fx_add (p' := 91) (e := (T + 1)) rfl rfl (by omega) ?_
  refine ax_iastore (p' := 92) rfl rfl (S.wr (k := po) rfl rfl rfl rfl (by omega)) ?_
  refine am_ev.step (pc' := 93) rfl rfl ?_
  refine am_ev.step (pc' := 94) rfl rfl ?_
  refine ax_gf (p' := 97) rfl rfl (fO (S.ob rfl)) (ax_put_o (Or.inl (by decide)) v62) ?_
  refine am_ev.step (pc' := 98) rfl rfl ?_
  refine ax_gf (p' := 101) rfl rfl (fO (S.ob rfl)) (ax_put_o (Or.inl (by decide)) (S.rf rfl rfl)) ?_
  refine am_ev.step (pc' := 102) rfl rfl ?_
  refine ax_iaload (p' := 103) rfl rfl ((S.pa rfl).rd (k := c) rfl rfl rfl rfl rfl (by omega) (ax_put_o (Or.inl (by decide)) v120)) ?_
  refine fx_add (p' := 104) (e := (p + pg)) rfl rfl (by omega) ?_
  refine ax_pf (p' := 107) rfl rfl (fO (S.ob rfl)) rfl ?_
  refine am_ev.step (pc' := 108) rfl rfl ?_
  refine am_ev.step (pc' := 109) rfl rfl ?_
  refine ax_gf (p' := 112) rfl rfl (fO (fO (S.ob rfl))) (ax_put_o (Or.inr (by decide)) (ax_put_o (Or.inl (by decide)) v63)) ?_
  refine am_ev.step (pc' := 113) rfl rfl ?_
  refine ax_gf (p' := 116) rfl rfl (fO (fO (S.ob rfl))) (ax_put_o (Or.inr (by decide)) (ax_put_o (Or.inl (by decide)) (S.rf rfl rfl))) ?_
  refine am_ev.step (pc' := 117) rfl rfl ?_
  refine ax_iaload (p' := 118) rfl rfl (((S.pa rfl).po rfl rfl).rd (k := c) rfl rfl rfl rfl rfl (by omega) (ax_put_o (Or.inl (by decide)) (ax_put_o (Or.inl (by decide)) v121))) ?_
  refine fx_add (p' := 119) (e := (f + fe)) rfl rfl (by omega) ?_
  refine ax_pf (p' := 122) rfl rfl (fO (fO (S.ob rfl))) rfl ?_
  refine am_ev.step (pc' := 123) rfl rfl ?_
  refine am_ev.step (pc' := 124) rfl rfl ?_
  refine ax_gf (p' := 127) rfl rfl (fO (fO (fO (S.ob rfl)))) (ax_put_o (Or.inr (by decide)) (ax_put_o (Or.inr (by decide)) (ax_put_o (Or.inl (by decide)) v64))) ?_
  refine am_ev.step (pc' := 128) rfl rfl ?_
  refine ax_gf (p' := 131) rfl rfl (fO (fO (fO (S.ob rfl)))) (ax_put_o (Or.inr (by decide)) (ax_put_o (Or.inr (by decide)) (ax_put_o (Or.inl (by decide)) (S.rf rfl rfl)))) ?_
  refine am_ev.step (pc' := 133) rfl rfl ?_
  refine ax_iaload (p' := 134) rfl rfl ((((S.pa rfl).po rfl rfl).po rfl rfl).rd (k := q) rfl rfl rfl rfl rfl (by omega) (ax_put_o (Or.inl (by decide)) (ax_put_o (Or.inl (by decide)) (ax_put_o (Or.inl (by decide)) v89)))) ?_
  refine fx_add (p' := 135) (e := (w + wo)) rfl rfl (by omega) ?_
  refine ax_pf (p' := 138) rfl rfl (fO (fO (fO (S.ob rfl)))) rfl ?_
  refine am_ev.step (pc' := 139) rfl rfl ?_
  refine ax_gf (p' := 142) rfl rfl (fO (fO (fO (fO (S.ob rfl))))) (ax_put_o (Or.inr (by decide)) (ax_put_o (Or.inr (by decide)) (ax_put_o (Or.inr (by decide)) (ax_put_o (Or.inl (by decide)) (S.rf rfl rfl))))) ?_
  refine am_ev.step (pc' := 143) rfl rfl ?_
  refine ax_baload (p' := 144) rfl rfl (((((S.pa rfl).po rfl rfl).po rfl rfl).po rfl rfl).rd (k := c) rfl rfl rfl rfl rfl (by omega) (ax_put_o (Or.inl (by decide)) (ax_put_o (Or.inl (by decide)) (ax_put_o (Or.inl (by decide)) (ax_put_o (Or.inl (by decide)) v119))))) ?_
  refine fx_z_eq_F (pF := 147) rfl (by omega) rfl (by omega) ?_
  refine am_ev.step (pc' := 148) rfl rfl ?_
  refine ax_gf (p' := 151) rfl rfl (fO (fO (fO (fO (S.ob rfl))))) (ax_put_o (Or.inr (by decide)) (ax_put_o (Or.inr (by decide)) (ax_put_o (Or.inr (by decide)) (ax_put_o (Or.inl (by decide)) (S.rf rfl rfl))))) ?_
  refine am_ev.step (pc' := 152) rfl rfl ?_
  refine ax_gf (p' := 155) rfl rfl (fO (fO (fO (fO (S.ob rfl))))) (ax_put_o (Or.inr (by decide)) (ax_put_o (Or.inr (by decide)) (ax_put_o (Or.inr (by decide)) (ax_put_o (Or.inl (by decide)) (S.rf rfl rfl))))) ?_
  refine am_ev.step (pc' := 157) rfl rfl ?_
  refine ax_iaload (p' := 158) rfl rfl (((((S.pa rfl).po rfl rfl).po rfl rfl).po rfl rfl).rd (k := q) rfl rfl rfl rfl rfl (by omega) (ax_put_o (Or.inl (by decide)) (ax_put_o (Or.inl (by decide)) (ax_put_o (Or.inl (by decide)) (ax_put_o (Or.inl (by decide)) v86))))) ?_
  refine ax_iaload (p' := 159) rfl rfl (((((S.pa rfl).po rfl rfl).po rfl rfl).po rfl rfl).rd (k := po) rfl rfl rfl rfl rfl (by omega) (ax_put_o (Or.inl (by decide)) (ax_put_o (Or.inl (by decide)) (ax_put_o (Or.inl (by decide)) (ax_put_s _ _ _))))) ?_
  refine am_ev.step (pc' := 160) rfl rfl ?_
  refine ax_gf (p' := 163) rfl rfl (fO (fO (fO (fO (S.ob rfl))))) (ax_put_o (Or.inr (by decide)) (ax_put_o (Or.inr (by decide)) (ax_put_o (Or.inr (by decide)) (ax_put_o (Or.inl (by decide)) (S.rf rfl rfl))))) ?_
  refine fx_bip (p' := 165) rfl rfl rfl ?_
  refine ax_iaload (p' := 166) rfl rfl (((((S.pa rfl).po rfl rfl).po rfl rfl).po rfl rfl).rd (k := 6) rfl rfl rfl rfl rfl (by decide) (ax_put_o (Or.inl (by decide)) (ax_put_o (Or.inl (by decide)) (ax_put_o (Or.inl (by decide)) (ax_put_o (Or.inl (by decide)) v816))))) ?_
  refine fx_c_gt_F (pF := 169) rfl (by omega) (by omega) rfl (by omega) ?_
  refine am_ev.step (pc' := 170) rfl rfl ?_
  refine am_ev.step (pc' := 174) rfl rfl ?_
  refine am_ev.step (pc' := 175) (ls' := [.ref 78, .int S0, iv 1, iv ((c : Int)), iv ((q : Int))]) rfl rfl ?_
  refine fx_inc (p' := 178) (e := ((c : Int) + 1)) (ls' := [.ref 78, .int S0, iv 1, iv ((c : Int) + 1), iv ((q : Int))]) rfl rfl rfl (by omega) rfl ?_
  refine am_ev.step (pc' := 45) rfl rfl ?_
  exact (rr_n ▸ q9)
theorem wm_238n (S : fS g) (v53 : g.2.2.2 78 53 = iv n) (H165 : am_ev (d + 8) 165 0 (am_ent [.long S0.toInt64, .long (Int64.ofNat 0), .long (wkL n)] 6) [] g (some (iv 0), g)) : am_ev (d + 9) 238 0 (am_ent [.ref 78, .int S0] 2) [] g (some (iv (-2)), g) := by
  show am_ev (d + 9) 238 0 [.ref 78, .int S0] [] g _
  refine am_ev.step (pc' := 1) rfl rfl ?_
  refine am_ev.step (pc' := 2) rfl rfl ?_
  refine am_ev.step (pc' := 3) rfl rfl ?_
  refine am_ev.step (pc' := 4) rfl rfl ?_
  refine am_ev.step (pc' := 5) rfl rfl ?_
  refine ax_gf (p' := 8) rfl rfl (S.ob rfl) v53 ?_
  refine am_ev.step (pc' := 9) rfl rfl ?_
  refine am_ev.step (pc' := 10) rfl rfl ?_
  refine am_ev.step (pc' := 11) rfl rfl ?_
  refine ax_call (z := 165) (p' := 14) (as := [_, _, _]) rfl (Or.inl ⟨_, rfl⟩) rfl rfl rfl rfl rfl rfl rfl rfl H165 rfl ?_
  refine fx_z_ne_F (pF := 17) rfl (by omega) rfl (by omega) ?_
  refine fx_bip (p' := 19) rfl rfl rfl ?_
  exact fx_reti rfl rfl rfl
variable {G2 : am_H}
theorem wm_2380 (S : fS g) (v53 : g.2.2.2 78 53 = iv n) (H165 : am_ev (d + 8) 165 0 (am_ent [.long S0.toInt64, .long (Int64.ofNat 0), .long (wkL n)] 6) [] g (some (iv 1), g)) (H235 : am_ev (d + 8) 235 0 (am_ent [.ref 78] 3) [] g (none, G)) (SG : fS G) (H236 : am_ev (d + 8) 236 0 (am_ent [.ref 78, .int S0] 5) [] G (some (iv 0), G2)) (SG2 : fS G2) : am_ev (d + 9) 238 0 (am_ent [.ref 78, .int S0] 2) [] g (some (iv (-1)), G2) := by
  show am_ev (d + 9) 238 0 [.ref 78, .int S0] [] g _
  refine am_ev.step (pc' := 1) rfl rfl ?_
  refine am_ev.step (pc' := 2) rfl rfl ?_
  refine am_ev.step (pc' := 3) rfl rfl ?_
  refine am_ev.step (pc' := 4) rfl rfl ?_
  refine am_ev.step (pc' := 5) rfl rfl ?_
  refine ax_gf (p' := 8) rfl rfl (S.ob rfl) v53 ?_
  refine am_ev.step (pc' := 9) rfl rfl ?_
  refine am_ev.step (pc' := 10) rfl rfl ?_
  refine am_ev.step (pc' := 11) rfl rfl ?_
  refine ax_call (z := 165) (p' := 14) (as := [_, _, _]) rfl (Or.inl ⟨_, rfl⟩) rfl rfl rfl rfl rfl rfl rfl rfl H165 rfl ?_
  refine fx_z_ne_T (pT := 20) rfl (by omega) rfl (by omega) ?_
  refine am_ev.step (pc' := 21) rfl rfl ?_
  refine ax_call (z := 235) (p' := 24) (as := [_]) rfl (Or.inr (Or.inl ⟨_, rfl⟩)) rfl rfl rfl rfl rfl rfl (S.ob rfl) rfl H235 rfl ?_
  refine am_ev.step (pc' := 25) rfl rfl ?_
  refine am_ev.step (pc' := 26) rfl rfl ?_
  refine ax_call (z := 236) (p' := 29) (as := [_, _]) rfl (Or.inr (Or.inl ⟨_, rfl⟩)) rfl rfl rfl rfl rfl rfl (SG.ob rfl) rfl H236 rfl ?_
  refine fx_z_eq_T (pT := 39) rfl (by omega) rfl (by omega) ?_
  refine am_ev.step (pc' := 40) rfl rfl ?_
  exact fx_reti rfl rfl rfl
theorem wm_2381 (S : fS g) (v53 : g.2.2.2 78 53 = iv n) (H165 : am_ev (d + 8) 165 0 (am_ent [.long S0.toInt64, .long (Int64.ofNat 0), .long (wkL n)] 6) [] g (some (iv 1), g)) (H235 : am_ev (d + 8) 235 0 (am_ent [.ref 78] 3) [] g (none, G)) (SG : fS G) (H236 : am_ev (d + 8) 236 0 (am_ent [.ref 78, .int S0] 5) [] G (some (iv 1), G2)) (SG2 : fS G2) (v64 : G2.2.2.2 78 64 = iv w) : am_ev (d + 9) 238 0 (am_ent [.ref 78, .int S0] 2) [] g (some (iv w), G2) := by
  show am_ev (d + 9) 238 0 [.ref 78, .int S0] [] g _
  refine am_ev.step (pc' := 1) rfl rfl ?_
  refine am_ev.step (pc' := 2) rfl rfl ?_
  refine am_ev.step (pc' := 3) rfl rfl ?_
  refine am_ev.step (pc' := 4) rfl rfl ?_
  refine am_ev.step (pc' := 5) rfl rfl ?_
  refine ax_gf (p' := 8) rfl rfl (S.ob rfl) v53 ?_
  refine am_ev.step (pc' := 9) rfl rfl ?_
  refine am_ev.step (pc' := 10) rfl rfl ?_
  refine am_ev.step (pc' := 11) rfl rfl ?_
  refine ax_call (z := 165) (p' := 14) (as := [_, _, _]) rfl (Or.inl ⟨_, rfl⟩) rfl rfl rfl rfl rfl rfl rfl rfl H165 rfl ?_
  refine fx_z_ne_T (pT := 20) rfl (by omega) rfl (by omega) ?_
  refine am_ev.step (pc' := 21) rfl rfl ?_
  refine ax_call (z := 235) (p' := 24) (as := [_]) rfl (Or.inr (Or.inl ⟨_, rfl⟩)) rfl rfl rfl rfl rfl rfl (S.ob rfl) rfl H235 rfl ?_
  refine am_ev.step (pc' := 25) rfl rfl ?_
  refine am_ev.step (pc' := 26) rfl rfl ?_
  refine ax_call (z := 236) (p' := 29) (as := [_, _]) rfl (Or.inr (Or.inl ⟨_, rfl⟩)) rfl rfl rfl rfl rfl rfl (SG.ob rfl) rfl H236 rfl ?_
  refine fx_z_eq_F (pF := 32) rfl (by omega) rfl (by omega) ?_
  refine am_ev.step (pc' := 33) rfl rfl ?_
  refine ax_gf (p' := 36) rfl rfl (SG2.ob rfl) v64 ?_
  refine am_ev.step (pc' := 40) rfl rfl ?_
  exact fx_reti rfl rfl rfl
end WOP
