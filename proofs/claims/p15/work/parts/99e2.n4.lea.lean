/-! LEAVES: the states of a reading -/
def upV (Φ : Nat → Value) (i : Nat) (v : Value) : Nat → Value := fun j => if j = i then v else Φ j
/-- the program's state while a leave at cell q is read -/
def lC (h h0 : am_H) (q : Nat) (b : Nat → Int) (L p : Nat) (Φ : Nat → Value) : Prop := fS h ∧ tb h 42 b L ∧ h.2.2.2 41 1 = iv L ∧ h.2.2.2 41 6 = iv p ∧ h.2.2.2 41 3 = iv 0 ∧ h.2.2.2 41 4 = iv (-1) ∧ (h.1 = h0.1 ∧ h.2.2.1 = h0.2.2.1) ∧ am_isO h q 4 = true ∧ 130 ≤ q ∧ (∀ c j, c ≠ 41 → c ≠ q → h.2.2.2 c j = h0.2.2.2 c j) ∧ (∀ j, 2 ≤ j → j ≤ 8 → h.2.2.2 q j = Φ j) ∧ (∀ j, (j < 2 ∨ 8 < j) → h.2.2.2 q j = h0.2.2.2 q j)
def lX (h h0 : am_H) (q : Nat) (f : Int) (s : Nat) : Prop := fS h ∧ h.2.2.2 41 3 = iv f ∧ h.2.2.2 41 4 = iv s ∧ (h.1 = h0.1 ∧ h.2.2.1 = h0.2.2.1) ∧ 130 ≤ q ∧ (∀ c j, c ≠ 41 → c ≠ q → h.2.2.2 c j = h0.2.2.2 c j)
/-- the other side's -/
def lM (h h0 : am_H) (b : Nat → Int) (L p s e : Nat) (k v w : Int) (τ : Nat → Int) (Φ : Nat → Value) : Prop := fS h ∧ tb h 80 b L ∧ h.2.2.2 78 3 = iv L ∧ tz_t b L p s e k v ∧ h.2.2.2 78 4 = iv s ∧ h.2.2.2 78 5 = iv e ∧ h.2.2.2 78 6 = iv (tH k) ∧ h.2.2.2 78 7 = iv w ∧ (k = 2 → w = v) ∧ (43 ≤ k → w = k) ∧ h.2.2.2 78 8 = iv 0 ∧ h.2.2.2 78 9 = iv (-1) ∧ h.2.2.2 78 2 = iv 0 ∧ (∀ i, i < 6 → h.2.2.2 85 i = iv (τ i)) ∧ (∀ j, 2 ≤ j → j ≤ 8 → h.2.2.2 (102 + j) 80 = Φ j) ∧ ∀ c j, (c ≠ 78 ∨ 10 ≤ j) → c ≠ 85 → (c < 104 ∨ 110 < c ∨ j ≠ 80) → h.2.2.2 c j = h0.2.2.2 c j
def lY (h h0 : am_H) (f : Int) (s : Nat) : Prop := fS h ∧ h.2.2.2 78 8 = iv f ∧ h.2.2.2 78 9 = iv s ∧ h.2.2.2 78 2 = iv 0 ∧ ∀ c j, (c ≠ 78 ∨ 10 ≤ j) → c ≠ 85 → (c < 104 ∨ 110 < c ∨ j ≠ 80) → h.2.2.2 c j = h0.2.2.2 c j
abbrev FMo (h : am_H) (f : Int) (s : Nat) : am_H := am_put (am_put h 78 8 (iv f)) 78 9 (iv s)
section LST
variable {h h0 H g g0 M : am_H} {q : Nat} {b : Nat → Int} {L p s e p' s' e' n : Nat} {k v w k' v' w' f : Int} {τ : Nat → Int} {Φ : Nat → Value}
theorem lC_T1 (C : lC h h0 q b L p Φ) {s e : Nat} {k : Int} : lC (T1 h s e k) h0 q b L e Φ := by
  obtain ⟨S, B, w1, v6, f3, f4, sz, O, hq, fr, F, F2⟩ := C
  exact ⟨((S.po rfl rfl).po rfl rfl).po rfl rfl, ((B.put (by decide)).put (by decide)).put (by decide), ax_put_o (Or.inr (by decide)) (ax_put_o (Or.inr (by decide)) (ax_put_o (Or.inr (by decide)) w1)), ax_put_o (Or.inr (by decide)) (ax_put_s _ _ _), ax_put_o (Or.inr (by decide)) (ax_put_o (Or.inr (by decide)) (ax_put_o (Or.inr (by decide)) f3)), ax_put_o (Or.inr (by decide)) (ax_put_o (Or.inr (by decide)) (ax_put_o (Or.inr (by decide)) f4)), sz, fO (fO (fO O)), hq, fun c j n1 n2 => ax_put_o (Or.inl n1) (ax_put_o (Or.inl n1) (ax_put_o (Or.inl n1) (fr c j n1 n2))), fun j a c => ax_put_o (Or.inl (by omega)) (ax_put_o (Or.inl (by omega)) (ax_put_o (Or.inl (by omega)) (F j a c))), fun j a => ax_put_o (Or.inl (by omega)) (ax_put_o (Or.inl (by omega)) (ax_put_o (Or.inl (by omega)) (F2 j a)))⟩
theorem lC_pu (C : lC h h0 q b L p Φ) {i : Nat} {v : Value} (hi : 2 ≤ i ∧ i ≤ 8) : lC (am_put h q i v) h0 q b L p (upV Φ i v) := by
  obtain ⟨S, B, w1, v6, f3, f4, sz, O, hq, fr, F, F2⟩ := C
  refine ⟨S.pd hq, B.put (by omega), ax_put_o (Or.inl (by omega)) w1, ax_put_o (Or.inl (by omega)) v6, ax_put_o (Or.inl (by omega)) f3, ax_put_o (Or.inl (by omega)) f4, sz, fO O, hq, fun c j n1 n2 => ax_put_o (Or.inl n2) (fr c j n1 n2), fun j a c => ?_, fun j a => ax_put_o (Or.inr (by omega)) (F2 j a)⟩
  by_cases z : j = i
  · rw [z, show upV Φ i v i = v from if_pos rfl]
    exact ax_put_s _ _ _
  · rw [show upV Φ i v j = Φ j from if_neg z]
    exact ax_put_o (Or.inr z) (F j a c)
theorem lC_FL (C : lC h h0 q b L p Φ) {f : Int} {s : Nat} : lX (FL h f s) h0 q f s := by
  obtain ⟨S, B, w1, v6, f3, f4, sz, O, hq, fr, F, F2⟩ := C
  exact ⟨(S.po rfl rfl).po rfl rfl, ax_put_o (Or.inr (by decide)) (ax_put_s _ _ _), ax_put_s _ _ _, sz, hq, fun c j n1 n2 => ax_put_o (Or.inl n1) (ax_put_o (Or.inl n1) (fr c j n1 n2))⟩
theorem lX_pu (C : lX h h0 q f s) {i : Nat} {v : Value} : lX (am_put h q i v) h0 q f s := by
  obtain ⟨S, f3, f4, sz, hq, fr⟩ := C
  exact ⟨S.pd hq, ax_put_o (Or.inl (by omega)) f3, ax_put_o (Or.inl (by omega)) f4, sz, hq, fun c j n1 n2 => ax_put_o (Or.inl n2) (fr c j n1 n2)⟩
theorem lC_cT (C : lC h h0 q b L p Φ) (K : cT H h b L e) : lC H h0 q b L e Φ := by
  obtain ⟨S, B, w1, v6, f3, f4, sz, O, hq, fr, F, F2⟩ := C
  obtain ⟨S', B', w1', v6', f3', f4', sz', fr'⟩ := K
  refine ⟨S', B', w1', v6', f3', f4', ⟨sz'.1.trans sz.1, sz'.2.trans sz.2⟩, ?_, hq, fun c j n1 n2 => (fr' c j n1).trans (fr c j n1 n2), fun j a c => (fr' q j (by omega)).trans (F j a c), fun j a => (fr' q j (by omega)).trans (F2 j a)⟩
  unfold am_isO at O ⊢
  rw [sz'.1, sz'.2]
  exact O
theorem lC_cX (C : lC h h0 q b L p Φ) (K : cX H h f s) : lX H h0 q f s := by
  obtain ⟨S, B, w1, v6, f3, f4, sz, O, hq, fr, F, F2⟩ := C
  obtain ⟨S', f3', f4', sz', fr'⟩ := K
  exact ⟨S', f3', f4', ⟨sz'.1.trans sz.1, sz'.2.trans sz.2⟩, hq, fun c j n1 n2 => (fr' c j n1).trans (fr c j n1 n2)⟩
theorem lC_ct (C : lC h h0 q b L p Φ) : cT h h b L p := by
  obtain ⟨S, B, w1, v6, f3, f4, sz, O, hq, fr, F, F2⟩ := C
  exact ⟨S, B, w1, v6, f3, f4, ⟨rfl, rfl⟩, fun _ _ _ => rfl⟩
theorem lM_mt (C : lM h h0 b L p s e k v w τ Φ) : mT h h b L p s e k v w := by
  obtain ⟨S, B, w3, t0, w4, w5, w6, w7, ya, yb, f8, f9, zt, dT, F, fr⟩ := C
  exact ⟨S, B, w3, t0, w4, w5, w6, w7, ya, yb, f8, f9, zt, fun _ _ _ => rfl⟩
theorem lM_mT (C : lM h h0 b L p s e k v w τ Φ) (K : mT M h b L p' s' e' k' v' w') : lM M h0 b L p' s' e' k' v' w' τ Φ := by
  obtain ⟨S, B, w3, t0, w4, w5, w6, w7, ya, yb, f8, f9, zt, dT, F, fr⟩ := C
  obtain ⟨S', B', w3', t0', w4', w5', w6', w7', ya', yb', f8', f9', zt', fr'⟩ := K
  exact ⟨S', B', w3', t0', w4', w5', w6', w7', ya', yb', f8', f9', zt', fun i hi => (fr' 85 i (Or.inl (by decide))).trans (dT i hi), fun j a c => (fr' (102 + j) 80 (Or.inl (by omega))).trans (F j a c), fun c j n1 n2 n3 => (fr' c j n1).trans (fr c j n1 n2 n3)⟩
theorem lM_mX (C : lM h h0 b L p s e k v w τ Φ) {s' : Nat} (K : mX M h f s') : lY M h0 f s' := by
  obtain ⟨S, B, w3, t0, w4, w5, w6, w7, ya, yb, f8, f9, zt, dT, F, fr⟩ := C
  obtain ⟨S', f8', f9', zt', fr'⟩ := K
  exact ⟨S', f8', f9', zt', fun c j n1 n2 n3 => (fr' c j n1).trans (fr c j n1 n2 n3)⟩
theorem lM_mC (C : lM h h0 b L p s e k v w τ Φ) (K : mC M h b L p' s' e' k' v' w' n) : lM M h0 b L p' s' e' k' v' w' τ (upV Φ 8 (iv n)) := by
  obtain ⟨S, B, w3, t0, w4, w5, w6, w7, ya, yb, f8, f9, zt, dT, F, fr⟩ := C
  obtain ⟨S', B', w3', t0', w4', w5', w6', w7', ya', yb', f8', f9', zt', cr, fr'⟩ := K
  refine ⟨S', B', w3', t0', w4', w5', w6', w7', ya', yb', f8', f9', zt', fun i hi => (fr' 85 i (Or.inl (by decide)) (Or.inl (by decide))).trans (dT i hi), fun j a c => ?_, fun c j n1 n2 n3 => (fr' c j n1 (by omega)).trans (fr c j n1 n2 n3)⟩
  by_cases z : j = 8
  · rw [z, show upV Φ 8 (iv n) 8 = iv n from if_pos rfl]
    exact cr
  · rw [show upV Φ 8 (iv n) j = Φ j from if_neg z]
    exact (fr' (102 + j) 80 (Or.inl (by omega)) (Or.inl (by omega))).trans (F j a c)
theorem lM_mCX (C : lM h h0 b L p s e k v w τ Φ) {s' : Nat} (K : mCX M h f s') : lY M h0 f s' := by
  obtain ⟨S, B, w3, t0, w4, w5, w6, w7, ya, yb, f8, f9, zt, dT, F, fr⟩ := C
  obtain ⟨S', f8', f9', zt', fr'⟩ := K
  exact ⟨S', f8', f9', zt', fun c j n1 n2 n3 => (fr' c j n1 (by omega)).trans (fr c j n1 n2 n3)⟩
theorem lM_M1 (C : lM h h0 b L p s e k v w τ Φ) (t : tz_t b L e s' e' k' v') : lM (M1 h s' e' (tH k') (tV b L s' w)) h0 b L e s' e' k' v' (tV b L s' w) τ Φ := by
  obtain ⟨S, B, w3, t0, w4, w5, w6, w7, ya, yb, f8, f9, zt, dT, F, fr⟩ := C
  exact ⟨(((S.po rfl rfl).po rfl rfl).po rfl rfl).po rfl rfl, (((B.put (by decide)).put (by decide)).put (by decide)).put (by decide), ax_put_o (Or.inr (by decide)) (ax_put_o (Or.inr (by decide)) (ax_put_o (Or.inr (by decide)) (ax_put_o (Or.inr (by decide)) w3))), t, ax_put_o (Or.inr (by decide)) (ax_put_o (Or.inr (by decide)) (ax_put_o (Or.inr (by decide)) (ax_put_s _ _ _))), ax_put_o (Or.inr (by decide)) (ax_put_s _ _ _), ax_put_s _ _ _, ax_put_o (Or.inr (by decide)) (ax_put_o (Or.inr (by decide)) (ax_put_s _ _ _)), (t.v _).1, (t.v _).2, ax_put_o (Or.inr (by decide)) (ax_put_o (Or.inr (by decide)) (ax_put_o (Or.inr (by decide)) (ax_put_o (Or.inr (by decide)) f8))), ax_put_o (Or.inr (by decide)) (ax_put_o (Or.inr (by decide)) (ax_put_o (Or.inr (by decide)) (ax_put_o (Or.inr (by decide)) f9))), ax_put_o (Or.inr (by decide)) (ax_put_o (Or.inr (by decide)) (ax_put_o (Or.inr (by decide)) (ax_put_o (Or.inr (by decide)) zt))), fun i hi => ax_put_o (Or.inl (by decide)) (ax_put_o (Or.inl (by decide)) (ax_put_o (Or.inl (by decide)) (ax_put_o (Or.inl (by decide)) (dT i hi)))), fun j a c => ax_put_o (Or.inl (by omega)) (ax_put_o (Or.inl (by omega)) (ax_put_o (Or.inl (by omega)) (ax_put_o (Or.inl (by omega)) (F j a c)))), fun c j n1 n2 n3 => ax_put_o (by omega) (ax_put_o (by omega) (ax_put_o (by omega) (ax_put_o (by omega) (fr c j n1 n2 n3))))⟩
theorem lM_pu (C : lM h h0 b L p s e k v w τ Φ) {i : Nat} {u : Value} (hi : 2 ≤ i ∧ i ≤ 8) (SS : fS (am_put h (102 + i) 80 u)) : lM (am_put h (102 + i) 80 u) h0 b L p s e k v w τ (upV Φ i u) := by
  obtain ⟨S, B, w3, t0, w4, w5, w6, w7, ya, yb, f8, f9, zt, dT, F, fr⟩ := C
  refine ⟨SS, B.put (by omega), ax_put_o (Or.inl (by omega)) w3, t0, ax_put_o (Or.inl (by omega)) w4, ax_put_o (Or.inl (by omega)) w5, ax_put_o (Or.inl (by omega)) w6, ax_put_o (Or.inl (by omega)) w7, ya, yb, ax_put_o (Or.inl (by omega)) f8, ax_put_o (Or.inl (by omega)) f9, ax_put_o (Or.inl (by omega)) zt, fun i' hi' => ax_put_o (Or.inl (by omega)) (dT i' hi'), fun j a c => ?_, fun c j n1 n2 n3 => ax_put_o (by omega) (fr c j n1 n2 n3)⟩
  by_cases z : j = i
  · rw [z, show upV Φ i u i = u from if_pos rfl]
    exact ax_put_s _ _ _
  · rw [show upV Φ i u j = Φ j from if_neg z]
    exact ax_put_o (Or.inl (by omega)) (F j a c)
theorem lM_pt (C : lM h h0 b L p s e k v w τ Φ) {i : Nat} : lM (am_put h 85 i (iv 1)) h0 b L p s e k v w (up1 τ i 1) Φ := by
  obtain ⟨S, B, w3, t0, w4, w5, w6, w7, ya, yb, f8, f9, zt, dT, F, fr⟩ := C
  refine ⟨S.pa rfl, B.put (by decide), ax_put_o (Or.inl (by decide)) w3, t0, ax_put_o (Or.inl (by decide)) w4, ax_put_o (Or.inl (by decide)) w5, ax_put_o (Or.inl (by decide)) w6, ax_put_o (Or.inl (by decide)) w7, ya, yb, ax_put_o (Or.inl (by decide)) f8, ax_put_o (Or.inl (by decide)) f9, ax_put_o (Or.inl (by decide)) zt, fun j hj => ?_, fun j a c => ax_put_o (Or.inl (by omega)) (F j a c), fun c j n1 n2 n3 => ax_put_o (Or.inl n2) (fr c j n1 n2 n3)⟩
  by_cases z : j = i
  · rw [z, show up1 τ i 1 i = 1 from if_pos rfl]
    exact ax_put_s _ _ _
  · rw [show up1 τ i 1 j = τ j from if_neg z]
    exact ax_put_o (Or.inr z) (dT j hj)
theorem lM_FM (C : lM h h0 b L p s e k v w τ Φ) {f : Int} {s' : Nat} : lY (FMo h f s') h0 f s' := by
  obtain ⟨S, B, w3, t0, w4, w5, w6, w7, ya, yb, f8, f9, zt, dT, F, fr⟩ := C
  exact ⟨(S.po rfl rfl).po rfl rfl, ax_put_o (Or.inr (by decide)) (ax_put_s _ _ _), ax_put_s _ _ _, ax_put_o (Or.inr (by decide)) (ax_put_o (Or.inr (by decide)) zt), fun c j n1 n2 n3 => ax_put_o (by omega) (ax_put_o (by omega) (fr c j n1 n2 n3))⟩
end LST
