/-! EDITIONS: a new one's rows -/
theorem nwa {g : am_H} {n k p : Nat} {ls r : List Value} (hn : n ≤ 100000) : (if Int32.ofInt (n : Int) < 0 ∨ 100000 < (Int32.ofInt (n : Int)).toNatClampNeg then (none : am_R) else some (p, ls, .ref g.1 :: r, am_mk g (1, k, (Int32.ofInt (n : Int)).toNatClampNeg) (Int32.ofInt (n : Int)).toNatClampNeg (fun _ => am_dv k))) = some (p, ls, .ref g.1 :: r, am_mk g (1, k, n) n (fun _ => am_dv k)) := by
  have e1 : (Int32.ofInt (n : Int)).toInt = (n : Int) := fx_ti (by omega)
  have e2 : (Int32.ofInt (n : Int)).toNatClampNeg = n := by
    show (Int32.ofInt (n : Int)).toInt.toNat = n
    rw [e1, Int.toNat_natCast]
  rw [e2, if_neg]
  rintro (z | z)
  · have z := Int32.lt_iff_toInt_lt.1 z
    rw [e1, show (0 : Int32).toInt = 0 by decide] at z
    omega
  · omega
theorem fx_mxa {d y pc p' : Nat} {ls r : List Value} {h : am_H} {x : Option Value × am_H} {em : am_E} {n : Nat} (hc : am_at y pc em) (hi : am_isC em.1) (hz : em.2.2.2.1 = 10) (hb : em.2.2.2.2.1 = 0) (hcs : Nat.ble (am_cs r) 8 = true) (hp : pc + 3 = p') (hn : n ≤ 100000) (q : am_ev (d + 1) y p' ls (iv (n : Int) :: r) h x) : am_ev (d + 1) y pc ls (iv (n : Int) :: iv 0 :: r) h x := by
  subst hp
  refine am_ev.max hc hi hz hb (Nat.le_of_ble_eq_true hcs) ?_
  by_cases c : 0 < (n : Int)
  · rw [if_pos (Int32.lt_iff_toInt_lt.2 (by rw [fx_ti (by omega), fx_ti (by omega)]; exact c))]
    exact q
  · rw [if_neg (fun z => c (by have z := Int32.lt_iff_toInt_lt.1 z; rw [fx_ti (by omega), fx_ti (by omega)] at z; exact z)), show (0 : Int) = (n : Int) by omega]
    exact q
theorem mk_v {g : am_H} {sh : am_Sh} {N c j : Nat} {dv : Nat → Value} (n : c < g.1) : (am_mk g sh N dv).2.2.2 c j = g.2.2.2 c j := if_neg (by omega)
theorem mk_s {g : am_H} {sh : am_Sh} {N c : Nat} {dv : Nat → Value} (n : c < g.1) : (am_mk g sh N dv).2.2.1 c = g.2.2.1 c := if_neg (by omega)
theorem mk_w {g : am_H} {sh : am_Sh} {N j : Nat} {dv : Nat → Value} : (am_mk g sh N dv).2.2.2 g.1 j = dv j := if_pos rfl
theorem mk_t {g : am_H} {sh : am_Sh} {N : Nat} {dv : Nat → Value} : (am_mk g sh N dv).2.2.1 g.1 = sh := if_pos rfl
theorem mk_O {g : am_H} {sh : am_Sh} {N a k : Nat} {dv : Nat → Value} (O : am_isO g a k = true) : am_isO (am_mk g sh N dv) a k = true := by
  have z := zd_O O
  unfold am_isO
  rw [mk_s z.1, z.2.1, z.2.2, show Nat.blt a (am_mk g sh N dv).1 = true from Nat.ble_eq_true_of_le (show a + 1 ≤ g.1 + 1 by omega), Nat.beq_refl, Nat.beq_refl]
  rfl
/-- what the constructor of an edition leaves -/
def ed9 (h g : am_H) (E w l : Nat) : Prop := fS g ∧ g.1 = h.1 + 3 ∧ (∀ c, c < h.1 → g.2.2.1 c = h.2.2.1 c) ∧ (∀ c j, c < h.1 → c ≠ E → g.2.2.2 c j = h.2.2.2 c j) ∧ (g.2.2.1 h.1 = (1, 3, w) ∧ g.2.2.1 (h.1 + 1) = (1, 0, l + 1) ∧ g.2.2.1 (h.1 + 2) = (1, 0, l)) ∧ (g.2.2.2 E 0 = .ref h.1 ∧ g.2.2.2 E 1 = .ref (h.1 + 1) ∧ g.2.2.2 E 2 = .ref (h.1 + 2)) ∧ (g.2.2.2 E 3 = iv 0 ∧ g.2.2.2 E 4 = iv 0 ∧ g.2.2.2 E 5 = iv 0 ∧ g.2.2.2 E 6 = iv 0 ∧ g.2.2.2 E 7 = iv 0 ∧ g.2.2.2 E 8 = iv (-1) ∧ g.2.2.2 E 9 = iv (-1)) ∧ (∀ j, g.2.2.2 h.1 j = .long 0) ∧ (∀ j, g.2.2.2 (h.1 + 1) j = .int 0) ∧ (∀ j, g.2.2.2 (h.1 + 2) j = .int 0) ∧ ∀ j, 10 ≤ j → g.2.2.2 E j = h.2.2.2 E j
section EDN
variable {d E w l : Nat} {h : am_H}
theorem ed_9 (S : fS h) (hE : 130 ≤ E) (OE : am_isO h E 3 = true) (hw : w ≤ 1000) (hl : l ≤ 1000) : ∃ g : am_H, am_ev (d + 1) 9 0 (am_ent [.ref E, iv w, iv l] 3) [] h (none, g) ∧ ed9 h g E w l := by
  have xl : E < h.1 := (zd_O OE).1
  obtain ⟨h1, e1⟩ : ∃ h1 : am_H, h1 = (am_put (am_put (am_put (am_put (am_put (am_put (am_put h E 3 (iv 0)) E 4 (iv 0)) E 5 (iv 0)) E 6 (iv 0)) E 7 (iv 0)) E 8 (iv (-1))) E 9 (iv (-1))) := ⟨_, rfl⟩
  have n1 : h1.1 = h.1 := by rw [e1]; rfl
  have t1 : h1.2.2.1 = h.2.2.1 := by rw [e1]; rfl
  have S1 : fS h1 := by rw [e1]; exact (((((((S.pd hE).pd hE).pd hE).pd hE).pd hE).pd hE).pd hE)
  have O1 : am_isO h1 E 3 = true := by rw [e1]; exact OE
  have v1 : ∀ c j, c ≠ E → h1.2.2.2 c j = h.2.2.2 c j := fun c j n => by
    rw [e1]
    exact (ax_put_o (Or.inl n) (ax_put_o (Or.inl n) (ax_put_o (Or.inl n) (ax_put_o (Or.inl n) (ax_put_o (Or.inl n) (ax_put_o (Or.inl n) (ax_put_o (Or.inl n) rfl)))))))
  have w1 : ∀ j, 10 ≤ j → h1.2.2.2 E j = h.2.2.2 E j := fun j n => by
    rw [e1]
    exact (ax_put_o (Or.inr (by omega)) (ax_put_o (Or.inr (by omega)) (ax_put_o (Or.inr (by omega)) (ax_put_o (Or.inr (by omega)) (ax_put_o (Or.inr (by omega)) (ax_put_o (Or.inr (by omega)) (ax_put_o (Or.inr (by omega)) rfl)))))))
  have f3 : h1.2.2.2 E 3 = iv 0 := by
    rw [e1]
    exact (ax_put_o (Or.inr (by decide)) (ax_put_o (Or.inr (by decide)) (ax_put_o (Or.inr (by decide)) (ax_put_o (Or.inr (by decide)) (ax_put_o (Or.inr (by decide)) (ax_put_o (Or.inr (by decide)) (ax_put_s _ _ _)))))))
  have f4 : h1.2.2.2 E 4 = iv 0 := by
    rw [e1]
    exact (ax_put_o (Or.inr (by decide)) (ax_put_o (Or.inr (by decide)) (ax_put_o (Or.inr (by decide)) (ax_put_o (Or.inr (by decide)) (ax_put_o (Or.inr (by decide)) (ax_put_s _ _ _))))))
  have f5 : h1.2.2.2 E 5 = iv 0 := by
    rw [e1]
    exact (ax_put_o (Or.inr (by decide)) (ax_put_o (Or.inr (by decide)) (ax_put_o (Or.inr (by decide)) (ax_put_o (Or.inr (by decide)) (ax_put_s _ _ _)))))
  have f6 : h1.2.2.2 E 6 = iv 0 := by
    rw [e1]
    exact (ax_put_o (Or.inr (by decide)) (ax_put_o (Or.inr (by decide)) (ax_put_o (Or.inr (by decide)) (ax_put_s _ _ _))))
  have f7 : h1.2.2.2 E 7 = iv 0 := by
    rw [e1]
    exact (ax_put_o (Or.inr (by decide)) (ax_put_o (Or.inr (by decide)) (ax_put_s _ _ _)))
  have f8 : h1.2.2.2 E 8 = iv (-1) := by
    rw [e1]
    exact (ax_put_o (Or.inr (by decide)) (ax_put_s _ _ _))
  have f9 : h1.2.2.2 E 9 = iv (-1) := by
    rw [e1]
    exact (ax_put_s _ _ _)
  obtain ⟨h2, e2⟩ : ∃ h2 : am_H, h2 = am_mk h1 (1, 3, w) w (fun _ => am_dv 3) := ⟨_, rfl⟩
  have S2 : fS h2 := by rw [e2]; exact S1.mk
  have O2 : am_isO h2 E 3 = true := by rw [e2]; exact mk_O O1
  have n2 : h2.1 = h.1 + 1 := by rw [e2]; show h1.1 + 1 = _; rw [n1]
  obtain ⟨h3, e3⟩ : ∃ h3 : am_H, h3 = am_put h2 E 0 (.ref h1.1) := ⟨_, rfl⟩
  have S3 : fS h3 := by rw [e3]; exact S2.pd hE
  have O3 : am_isO h3 E 3 = true := by rw [e3]; exact O2
  have n3 : h3.1 = h.1 + 1 := by rw [e3]; exact n2
  obtain ⟨h4, e4⟩ : ∃ h4 : am_H, h4 = am_mk h3 (1, 0, l + 1) (l + 1) (fun _ => am_dv 0) := ⟨_, rfl⟩
  have S4 : fS h4 := by rw [e4]; exact S3.mk
  have O4 : am_isO h4 E 3 = true := by rw [e4]; exact mk_O O3
  have n4 : h4.1 = h.1 + 2 := by rw [e4]; show h3.1 + 1 = _; rw [n3]
  obtain ⟨h5, e5⟩ : ∃ h5 : am_H, h5 = am_put h4 E 1 (.ref h3.1) := ⟨_, rfl⟩
  have S5 : fS h5 := by rw [e5]; exact S4.pd hE
  have O5 : am_isO h5 E 3 = true := by rw [e5]; exact O4
  have n5 : h5.1 = h.1 + 2 := by rw [e5]; exact n4
  obtain ⟨h6, e6⟩ : ∃ h6 : am_H, h6 = am_mk h5 (1, 0, l) l (fun _ => am_dv 0) := ⟨_, rfl⟩
  have S6 : fS h6 := by rw [e6]; exact S5.mk
  have O6 : am_isO h6 E 3 = true := by rw [e6]; exact mk_O O5
  have n6 : h6.1 = h.1 + 3 := by rw [e6]; show h5.1 + 1 = _; rw [n5]
  obtain ⟨h7, e7⟩ : ∃ h7 : am_H, h7 = am_put h6 E 2 (.ref h5.1) := ⟨_, rfl⟩
  have S7 : fS h7 := by rw [e7]; exact S6.pd hE
  have q7 : am_ev (d + 1) 9 74 [.ref E, iv w, iv l] [] h7 (none, h7) := am_ev.retv rfl rfl
  have q6 : am_ev (d + 1) 9 69 [.ref E, iv w, iv l] [iv l, .ref E] h5 (none, h7) := by
    refine am_ev.step (pc' := 71) (ls' := [.ref E, iv w, iv l]) (st' := [.ref h5.1, .ref E]) (h' := am_mk h5 (1, 0, l) l (fun _ => am_dv 0)) rfl (nwa (by omega)) ?_
    rw [← e6]
    refine ax_pf (p' := 74) rfl rfl O6 rfl ?_
    rw [← e7]
    exact q7
  have q5 : am_ev (d + 1) 9 58 [.ref E, iv w, iv l] [iv ((l + 1 : Nat) : Int), .ref E] h3 (none, h7) := by
    refine am_ev.step (pc' := 60) (ls' := [.ref E, iv w, iv l]) (st' := [.ref h3.1, .ref E]) (h' := am_mk h3 (1, 0, l + 1) (l + 1) (fun _ => am_dv 0)) rfl (nwa (by omega)) ?_
    rw [← e4]
    refine ax_pf (p' := 63) rfl rfl O4 rfl ?_
    rw [← e5]
    refine am_ev.step (pc' := 64) rfl rfl ?_
    refine am_ev.step (pc' := 65) rfl rfl ?_
    refine am_ev.step (pc' := 66) rfl rfl ?_
    refine fx_mxa (p' := 69) (n := l) rfl (Or.inl ⟨_, rfl⟩) rfl rfl rfl rfl (by omega) ?_
    exact q6
  have q1 : am_ev (d + 1) 9 45 [.ref E, iv w, iv l] [iv w, .ref E] h1 (none, h7) := by
    refine am_ev.step (pc' := 47) (ls' := [.ref E, iv w, iv l]) (st' := [.ref h1.1, .ref E]) (h' := am_mk h1 (1, 3, w) w (fun _ => am_dv 3)) rfl (nwa (by omega)) ?_
    rw [← e2]
    refine ax_pf (p' := 50) rfl rfl O2 rfl ?_
    rw [← e3]
    refine am_ev.step (pc' := 51) rfl rfl ?_
    refine am_ev.step (pc' := 52) rfl rfl ?_
    refine am_ev.step (pc' := 53) rfl rfl ?_
    refine fx_mxa (p' := 56) (n := l) rfl (Or.inl ⟨_, rfl⟩) rfl rfl rfl rfl (by omega) ?_
    refine am_ev.step (pc' := 57) rfl rfl ?_
    refine fx_add (p' := 58) (e := ((l + 1 : Nat) : Int)) rfl rfl (by omega) ?_
    exact q5
  -- places
  have u3 : ∀ c j, c < h1.1 → (c ≠ E ∨ j ≠ 0) → h3.2.2.2 c j = h1.2.2.2 c j := fun c j a n => by
    rw [e3]
    refine ax_put_o n ?_
    rw [e2]
    exact mk_v a
  have u5 : ∀ c j, c < h3.1 → (c ≠ E ∨ j ≠ 1) → h5.2.2.2 c j = h3.2.2.2 c j := fun c j a n => by
    rw [e5]
    refine ax_put_o n ?_
    rw [e4]
    exact mk_v a
  have u7 : ∀ c j, c < h5.1 → (c ≠ E ∨ j ≠ 2) → h7.2.2.2 c j = h5.2.2.2 c j := fun c j a n => by
    rw [e7]
    refine ax_put_o n ?_
    rw [e6]
    exact mk_v a
  have al : ∀ c j, c < h.1 → (c ≠ E ∨ 3 ≤ j) → h7.2.2.2 c j = h1.2.2.2 c j := fun c j a n => by
    rw [u7 c j (by omega) (by omega), u5 c j (by omega) (by omega), u3 c j (by omega) (by omega)]
  have sh : ∀ c, c < h.1 → h7.2.2.1 c = h.2.2.1 c := fun c a => by
    rw [e7]
    show h6.2.2.1 c = _
    rw [e6, mk_s (by omega), e5]
    show h4.2.2.1 c = _
    rw [e4, mk_s (by omega), e3]
    show h2.2.2.1 c = _
    rw [e2, mk_s (by omega), t1]
  refine ⟨h7, ?_, S7, by rw [e7]; exact n6, sh, fun c j a n => (al c j a (Or.inl n)).trans (v1 c j n), ⟨?_, ?_, ?_⟩, ⟨?_, ?_, ?_⟩, ⟨(al E 3 xl (Or.inr (by decide))).trans f3, (al E 4 xl (Or.inr (by decide))).trans f4, (al E 5 xl (Or.inr (by decide))).trans f5, (al E 6 xl (Or.inr (by decide))).trans f6, (al E 7 xl (Or.inr (by decide))).trans f7, (al E 8 xl (Or.inr (by decide))).trans f8, (al E 9 xl (Or.inr (by decide))).trans f9⟩, fun j => ?_, fun j => ?_, fun j => ?_, fun j n => (al E j xl (Or.inr (by omega))).trans (w1 j n)⟩
  · show am_ev (d + 1) 9 0 [.ref E, iv w, iv l] [] h _
    rw [e1] at q1
    refine am_ev.step (pc' := 1) rfl rfl ?_
    refine ax_obj (p' := 4) rfl (Or.inr (Or.inr ⟨_, rfl⟩)) rfl rfl rfl ?_
    refine am_ev.step (pc' := 5) rfl rfl ?_
    refine am_ev.step (pc' := 6) rfl rfl ?_
    refine ax_pf (p' := 9) rfl rfl OE rfl ?_
    refine am_ev.step (pc' := 10) rfl rfl ?_
    refine am_ev.step (pc' := 11) rfl rfl ?_
    refine ax_pf (p' := 14) rfl rfl (fO OE) rfl ?_
    refine am_ev.step (pc' := 15) rfl rfl ?_
    refine am_ev.step (pc' := 16) rfl rfl ?_
    refine ax_pf (p' := 19) rfl rfl (fO (fO OE)) rfl ?_
    refine am_ev.step (pc' := 20) rfl rfl ?_
    refine am_ev.step (pc' := 21) rfl rfl ?_
    refine ax_pf (p' := 24) rfl rfl (fO (fO (fO OE))) rfl ?_
    refine am_ev.step (pc' := 25) rfl rfl ?_
    refine am_ev.step (pc' := 26) rfl rfl ?_
    refine ax_pf (p' := 29) rfl rfl (fO (fO (fO (fO OE)))) rfl ?_
    refine am_ev.step (pc' := 30) rfl rfl ?_
    refine am_ev.step (pc' := 31) rfl rfl ?_
    refine ax_pf (p' := 34) rfl rfl (fO (fO (fO (fO (fO OE))))) rfl ?_
    refine am_ev.step (pc' := 35) rfl rfl ?_
    refine am_ev.step (pc' := 36) rfl rfl ?_
    refine ax_pf (p' := 39) rfl rfl (fO (fO (fO (fO (fO (fO OE)))))) rfl ?_
    refine am_ev.step (pc' := 40) rfl rfl ?_
    refine am_ev.step (pc' := 41) rfl rfl ?_
    refine am_ev.step (pc' := 42) rfl rfl ?_
    refine fx_mxa (p' := 45) (n := w) rfl (Or.inl ⟨_, rfl⟩) rfl rfl rfl rfl (by omega) ?_
    exact q1
  · rw [e7]
    show h6.2.2.1 h.1 = _
    rw [e6, mk_s (by omega), e5]
    show h4.2.2.1 h.1 = _
    rw [e4, mk_s (by omega), e3]
    show h2.2.2.1 h.1 = _
    rw [e2, ← n1, mk_t]
  · rw [e7]
    show h6.2.2.1 (h.1 + 1) = _
    rw [e6, mk_s (by omega), e5]
    show h4.2.2.1 (h.1 + 1) = _
    rw [e4, ← n3, mk_t]
  · rw [e7]
    show h6.2.2.1 (h.1 + 2) = _
    rw [e6, ← n5, mk_t]
  · rw [u7 E 0 (by omega) (Or.inr (by decide)), u5 E 0 (by omega) (Or.inr (by decide)), e3, ← n1]
    exact ax_put_s _ _ _
  · rw [u7 E 1 (by omega) (Or.inr (by decide)), e5, ← n3]
    exact ax_put_s _ _ _
  · rw [e7, ← n5]
    exact ax_put_s _ _ _
  · rw [u7 h.1 j (by omega) (Or.inl (by omega)), u5 h.1 j (by omega) (Or.inl (by omega)), e3]
    refine ax_put_o (Or.inl (by omega)) ?_
    rw [e2, ← n1]
    exact mk_w
  · rw [u7 (h.1 + 1) j (by omega) (Or.inl (by omega)), e5]
    refine ax_put_o (Or.inl (by omega)) ?_
    rw [e4, ← n3]
    exact mk_w
  · rw [e7]
    refine ax_put_o (Or.inl (by omega)) ?_
    rw [e6, ← n5]
    exact mk_w
end EDN
/-! EDITIONS: 47, a copy of the draft -/
section EDT
variable {d E w l : Nat} {h G : am_H} {st : Nat → Nat} {t u : Int32}
/-- while rows are copied -/
def tI (G K : am_H) (R : Nat) : Prop := fS K ∧ K.1 = G.1 ∧ K.2.2.1 = G.2.2.1 ∧ (∀ c j, c ≠ R → K.2.2.2 c j = G.2.2.2 c j) ∧ ∀ j, (∀ a, G.2.2.2 R j ≠ .ref a) → ∀ a, K.2.2.2 R j ≠ .ref a
theorem tI.put {K : am_H} {R k : Nat} {v : Value} (q : tI G K R) (hR : 130 ≤ R) (nv : ∀ a, v ≠ .ref a) : tI G (am_put K R k v) R := ⟨q.1.pd hR, q.2.1, q.2.2.1, fun c j n => ax_put_o (Or.inl n) (q.2.2.2.1 c j n), fun j g a z => by
    by_cases e : j = k
    · subst e
      rw [ax_put_s] at z
      exact nv a z
    · rw [ax_put_o (Or.inr e) rfl] at z
      exact q.2.2.2.2 j g a z⟩
theorem tw_lp (hE : 130 ≤ E) (OE : am_isO G E 3 = true) (lt : E + 3 < G.1) (eR : G.2.2.2 E 0 = .ref (E + 1)) (sR : G.2.2.1 (E + 1) = (1, 3, w)) (hw : w ≤ 240) (g55 : ∀ j, j < 240 → ∃ x : Int64, G.2.2.2 55 j = .long x) : ∀ (m j : Nat) (K : am_H), j + m = w → tI G K (E + 1) → (∀ i, i < j → K.2.2.2 (E + 1) i = G.2.2.2 55 i) → ∃ K', tI G K' (E + 1) ∧ (∀ i, i < w → K'.2.2.2 (E + 1) i = G.2.2.2 55 i) ∧ ∀ x, am_ev (d + 2) 47 52 [.ref 54, iv w, .ref E, iv w] [] K' x → am_ev (d + 2) 47 20 [.ref 54, iv w, .ref E, iv j] [] K x
  | 0, j, K, hj, q, C => by
    have e : j = w := by omega
    subst e
    refine ⟨K, q, C, fun x q9 => ?_⟩
    refine am_ev.step (pc' := 21) rfl rfl ?_
    refine am_ev.step (pc' := 22) rfl rfl ?_
    refine fx_c_ge_T (pT := 52) rfl (by omega) (by omega) rfl (by omega) ?_
    exact q9
  | m + 1, j, K, hj, q, C => by
    have S := q.1
    obtain ⟨u, gu⟩ := g55 j (by omega)
    have g0 : K.2.2.2 E 0 = .ref (E + 1) := (q.2.2.2.1 E 0 (by omega)).trans eR
    have gj : K.2.2.2 55 j = .long u := (q.2.2.2.1 55 j (by omega)).trans gu
    have OK : am_isO K E 3 = true := by
      unfold am_isO at OE ⊢
      rw [q.2.1, q.2.2.1]
      exact OE
    have wr : am_wr K (E + 1) (Int32.ofInt (j : Int)) 3 (.long u) = some (am_put K (E + 1) j (.long u)) := by
      have z := fx_ti (e := (j : Int)) (by omega)
      rw [ax_wrv (n := w) (by rw [q.2.1]; omega) (by rw [q.2.2.1]; exact sR) (by rw [z]; omega) (by rw [z]; omega), z, Int.toNat_natCast]
    obtain ⟨K', k1, k2, k3⟩ := tw_lp hE OE lt eR sR hw g55 m (j + 1) (am_put K (E + 1) j (.long u)) (by omega) (q.put (by omega) (fun a z => by cases z)) (fun i hi => by
      by_cases e : i = j
      · subst e
        exact (ax_put_s _ _ _).trans gu.symm
      · exact ax_put_o (Or.inr e) (C i (by omega)))
    refine ⟨K', k1, k2, fun x q9 => ?_⟩
    refine am_ev.step (pc' := 21) rfl rfl ?_
    refine am_ev.step (pc' := 22) rfl rfl ?_
    refine fx_c_ge_F (pF := 25) rfl (by omega) (by omega) rfl (by omega) ?_
    refine am_ev.step (pc' := 26) rfl rfl ?_
    refine am_ev.step (pc' := 27) rfl rfl ?_
    refine ax_gf (p' := 30) rfl rfl (S.ob rfl) (S.rf rfl rfl) ?_
    refine fx_alen (p' := 31) (n := 240) rfl rfl (S.al rfl rfl) ?_
    refine fx_c_ge_F (pF := 34) rfl (by omega) (by omega) rfl (by omega) ?_
    refine am_ev.step (pc' := 35) rfl rfl ?_
    refine ax_gf (p' := 38) rfl rfl OK g0 ?_
    refine am_ev.step (pc' := 39) rfl rfl ?_
    refine am_ev.step (pc' := 40) rfl rfl ?_
    refine ax_gf (p' := 43) rfl rfl (S.ob rfl) (S.rf rfl rfl) ?_
    refine am_ev.step (pc' := 44) rfl rfl ?_
    refine ax_laload (p' := 45) rfl rfl (S.rd (k := j) rfl rfl rfl rfl rfl (by omega) gj) ?_
    refine fx_las (p' := 46) rfl rfl wr ?_
    refine fx_inc (p' := 49) (e := ((j + 1 : Nat) : Int)) (ls' := [.ref 54, iv w, .ref E, iv ((j + 1 : Nat) : Int)]) rfl rfl rfl (by omega) rfl ?_
    refine am_ev.step (pc' := 20) rfl rfl ?_
    exact k3 x q9
theorem ts_lp (hE : 130 ≤ E) (OE : am_isO G E 3 = true) (lt : E + 3 < G.1) (eR : G.2.2.2 E 1 = .ref (E + 2)) (sR : G.2.2.1 (E + 2) = (1, 0, l + 1)) (hl : l ≤ 30) (g3 : G.2.2.2 54 3 = iv l) (g56 : ∀ i, i ≤ l → G.2.2.2 56 i = iv (st i)) : ∀ (m j : Nat) (K : am_H), j + m = l + 1 → tI G K (E + 2) → (∀ i, i < j → K.2.2.2 (E + 2) i = iv (st i)) → ∃ K', tI G K' (E + 2) ∧ (∀ i, i ≤ l → K'.2.2.2 (E + 2) i = iv (st i)) ∧ ∀ x, am_ev (d + 2) 47 89 [.ref 54, iv w, .ref E, iv ((l + 1 : Nat) : Int)] [] K' x → am_ev (d + 2) 47 54 [.ref 54, iv w, .ref E, iv j] [] K x
  | 0, j, K, hj, q, C => by
    have e : j = l + 1 := by omega
    subst e
    have S := q.1
    refine ⟨K, q, fun i hi => C i (by omega), fun x q9 => ?_⟩
    refine am_ev.step (pc' := 55) rfl rfl ?_
    refine am_ev.step (pc' := 56) rfl rfl ?_
    refine ax_gf (p' := 59) rfl rfl (S.ob rfl) ((q.2.2.2.1 54 3 (by omega)).trans g3) ?_
    refine fx_c_gt_T (pT := 89) rfl (by omega) (by omega) rfl (by omega) ?_
    exact q9
  | m + 1, j, K, hj, q, C => by
    have S := q.1
    have gu := g56 j (by omega)
    have g0 : K.2.2.2 E 1 = .ref (E + 2) := (q.2.2.2.1 E 1 (by omega)).trans eR
    have gj : K.2.2.2 56 j = iv (st j) := (q.2.2.2.1 56 j (by omega)).trans gu
    have OK : am_isO K E 3 = true := by
      unfold am_isO at OE ⊢
      rw [q.2.1, q.2.2.1]
      exact OE
    have wr : am_wr K (E + 2) (Int32.ofInt (j : Int)) 0 (iv (st j)) = some (am_put K (E + 2) j (iv (st j))) := by
      have z := fx_ti (e := (j : Int)) (by omega)
      rw [ax_wrv (n := l + 1) (by rw [q.2.1]; omega) (by rw [q.2.2.1]; exact sR) (by rw [z]; omega) (by rw [z]; omega), z, Int.toNat_natCast]
    obtain ⟨K', k1, k2, k3⟩ := ts_lp hE OE lt eR sR hl g3 g56 m (j + 1) (am_put K (E + 2) j (iv (st j))) (by omega) (q.put (by omega) (fun a z => by cases z)) (fun i hi => by
      by_cases e : i = j
      · subst e
        exact ax_put_s _ _ _
      · exact ax_put_o (Or.inr e) (C i (by omega)))
    refine ⟨K', k1, k2, fun x q9 => ?_⟩
    refine am_ev.step (pc' := 55) rfl rfl ?_
    refine am_ev.step (pc' := 56) rfl rfl ?_
    refine ax_gf (p' := 59) rfl rfl (S.ob rfl) ((q.2.2.2.1 54 3 (by omega)).trans g3) ?_
    refine fx_c_gt_F (pF := 62) rfl (by omega) (by omega) rfl (by omega) ?_
    refine am_ev.step (pc' := 63) rfl rfl ?_
    refine am_ev.step (pc' := 64) rfl rfl ?_
    refine ax_gf (p' := 67) rfl rfl (S.ob rfl) (S.rf rfl rfl) ?_
    refine fx_alen (p' := 68) (n := 31) rfl rfl (S.al rfl rfl) ?_
    refine fx_c_ge_F (pF := 71) rfl (by omega) (by omega) rfl (by omega) ?_
    refine am_ev.step (pc' := 72) rfl rfl ?_
    refine ax_gf (p' := 75) rfl rfl OK g0 ?_
    refine am_ev.step (pc' := 76) rfl rfl ?_
    refine am_ev.step (pc' := 77) rfl rfl ?_
    refine ax_gf (p' := 80) rfl rfl (S.ob rfl) (S.rf rfl rfl) ?_
    refine am_ev.step (pc' := 81) rfl rfl ?_
    refine ax_iaload (p' := 82) rfl rfl (S.rd (k := j) rfl rfl rfl rfl rfl (by omega) gj) ?_
    refine ax_iastore (p' := 83) rfl rfl wr ?_
    refine fx_inc (p' := 86) (e := ((j + 1 : Nat) : Int)) (ls' := [.ref 54, iv w, .ref E, iv ((j + 1 : Nat) : Int)]) rfl rfl rfl (by omega) rfl ?_
    refine am_ev.step (pc' := 54) rfl rfl ?_
    exact k3 x q9
/-- what a copy of the draft is -/
def ed47 (h g : am_H) (w l : Nat) (st : Nat → Nat) (t u : Int32) : Prop := fS g ∧ g.1 = h.1 + 4 ∧ (∀ c, c < h.1 → g.2.2.1 c = h.2.2.1 c) ∧ (∀ c j, c < h.1 → g.2.2.2 c j = h.2.2.2 c j) ∧ (g.2.2.1 h.1 = (0, 3, 10) ∧ g.2.2.1 (h.1 + 1) = (1, 3, w) ∧ g.2.2.1 (h.1 + 2) = (1, 0, l + 1) ∧ g.2.2.1 (h.1 + 3) = (1, 0, l)) ∧ (g.2.2.2 h.1 0 = .ref (h.1 + 1) ∧ g.2.2.2 h.1 1 = .ref (h.1 + 2) ∧ g.2.2.2 h.1 2 = .ref (h.1 + 3)) ∧ (g.2.2.2 h.1 3 = iv l ∧ g.2.2.2 h.1 4 = .int t ∧ g.2.2.2 h.1 5 = .int u ∧ g.2.2.2 h.1 6 = iv 0 ∧ g.2.2.2 h.1 7 = iv 0) ∧ (∀ i, i < w → g.2.2.2 (h.1 + 1) i = h.2.2.2 55 i) ∧ (∀ i, i ≤ l → g.2.2.2 (h.1 + 2) i = iv (st i)) ∧ (∀ j a, 3 ≤ j → g.2.2.2 h.1 j ≠ .ref a) ∧ ∀ k j a, 1 ≤ k → k ≤ 3 → g.2.2.2 (h.1 + k) j ≠ .ref a
theorem ed_49 (S : fS h) (hl : l ≤ 30) (g56 : h.2.2.2 56 l = iv w) : am_ev d 49 0 (am_ent [.ref 54, iv l] 2) [] h (some (iv w), h) := by
  show am_ev d 49 0 [.ref 54, iv l] [] h _
  refine am_ev.step (pc' := 1) rfl rfl ?_
  refine fx_z_lt_F (pF := 4) rfl (by omega) rfl (by omega) ?_
  refine am_ev.step (pc' := 5) rfl rfl ?_
  refine am_ev.step (pc' := 6) rfl rfl ?_
  refine ax_gf (p' := 9) rfl rfl (S.ob rfl) (S.rf rfl rfl) ?_
  refine fx_alen (p' := 10) (n := 31) rfl rfl (S.al rfl rfl) ?_
  refine fx_c_lt_T (pT := 17) rfl (by omega) (by omega) rfl (by omega) ?_
  refine am_ev.step (pc' := 18) rfl rfl ?_
  refine ax_gf (p' := 21) rfl rfl (S.ob rfl) (S.rf rfl rfl) ?_
  refine am_ev.step (pc' := 22) rfl rfl ?_
  refine ax_iaload (p' := 23) rfl rfl (S.rd (k := l) rfl rfl rfl rfl rfl (by omega) g56) ?_
  exact fx_reti rfl rfl rfl
theorem ed_48 (S : fS h) (hl : l ≤ 30) (g3 : h.2.2.2 54 3 = iv l) (g56 : h.2.2.2 56 l = iv w) : am_ev (d + 1) 48 0 (am_ent [.ref 54] 1) [] h (some (iv w), h) := by
  show am_ev (d + 1) 48 0 [.ref 54] [] h _
  refine am_ev.step (pc' := 1) rfl rfl ?_
  refine am_ev.step (pc' := 2) rfl rfl ?_
  refine ax_gf (p' := 5) rfl rfl (S.ob rfl) g3 ?_
  refine ax_call (z := 49) (p' := 8) (as := [_, _]) rfl (Or.inr (Or.inl ⟨_, rfl⟩)) rfl rfl rfl rfl rfl rfl (S.ob rfl) rfl (ed_49 S hl g56) rfl ?_
  exact fx_reti rfl rfl rfl
theorem ed_df (j : Nat) (a : Nat) : defaultValue (am_ty 3 j) ≠ .ref a := by
  cases am_ty 3 j <;> exact fun z => (by cases z)
theorem ed_47 (S : fS h) (hl : l ≤ 30) (hw : w ≤ 240) (g3 : h.2.2.2 54 3 = iv l) (g4 : h.2.2.2 54 4 = .int t) (g5 : h.2.2.2 54 5 = .int u) (g56 : ∀ i, i ≤ l → h.2.2.2 56 i = iv (st i)) (wl : st l = w) (g55 : ∀ j, j < 240 → ∃ x : Int64, h.2.2.2 55 j = .long x) : ∃ g : am_H, am_ev (d + 3) 47 0 (am_ent [.ref 54] 4) [] h (some (.ref h.1), g) ∧ ed47 h g w l st t u := by
  have lo := S.1
  obtain ⟨E, eE⟩ : ∃ E, E = h.1 := ⟨_, rfl⟩
  obtain ⟨h0, e0⟩ : ∃ h0 : am_H, h0 = am_mk h (0, 3, am_N 3) (am_N 3) (fun j => defaultValue (am_ty 3 j)) := ⟨_, rfl⟩
  have S0 : fS h0 := by rw [e0]; exact S.mk
  have n0 : h0.1 = E + 1 := by rw [e0, eE]; rfl
  have s0 : h0.2.2.1 E = (0, 3, 10) := by rw [e0, eE, mk_t]; rfl
  have O0 : am_isO h0 E 3 = true := by
    unfold am_isO
    rw [s0, n0, show Nat.blt E (E + 1) = true from Nat.ble_eq_true_of_le (Nat.le_refl _)]
    rfl
  have v0 : ∀ c j, c < h.1 → h0.2.2.2 c j = h.2.2.2 c j := fun c j a => by rw [e0]; exact mk_v a
  have t0 : ∀ c, c < h.1 → h0.2.2.1 c = h.2.2.1 c := fun c a => by rw [e0]; exact mk_s a
  obtain ⟨G, r9, SG, nG, tG, vG, ⟨sG1, sG2, sG3⟩, ⟨x0, x1, x2⟩, ⟨x3, x4, x5, x6, x7, x8, x9⟩, z1, z2, z3, z4⟩ := ed_9 (d := d + 1) S0 (by omega : 130 ≤ E) O0 (by omega : w ≤ 1000) (by omega : l ≤ 1000)
  rw [n0] at sG1 sG2 sG3 x0 x1 x2 z1 z2 z3 nG
  have vG0 : ∀ c j, c < h.1 → G.2.2.2 c j = h.2.2.2 c j := fun c j a => (vG c j (by omega) (by omega)).trans (v0 c j a)
  have OG : am_isO G E 3 = true := by
    unfold am_isO
    rw [tG E (by omega), s0, show Nat.blt E G.1 = true from Nat.ble_eq_true_of_le (by omega)]
    rfl
  have nz : ∀ j a, 3 ≤ j → G.2.2.2 E j ≠ .ref a := fun j a hj z => by
    by_cases c : 10 ≤ j
    · rw [z4 j c, e0, eE, mk_w] at z
      exact ed_df j a z
    · have hj : j = 3 ∨ j = 4 ∨ j = 5 ∨ j = 6 ∨ j = 7 ∨ j = 8 ∨ j = 9 := by omega
      rcases hj with rfl | rfl | rfl | rfl | rfl | rfl | rfl
      · rw [x3] at z; cases z
      · rw [x4] at z; cases z
      · rw [x5] at z; cases z
      · rw [x6] at z; cases z
      · rw [x7] at z; cases z
      · rw [x8] at z; cases z
      · rw [x9] at z; cases z
  obtain ⟨K1, a1, a2, a3⟩ := tw_lp (d := d + 1) (by omega : 130 ≤ E) OG (by omega) x0 sG1 hw (fun j hj => by
    obtain ⟨x, ex⟩ := g55 j hj
    exact ⟨x, (vG0 55 j (by omega)).trans ex⟩) w 0 G (by omega) ⟨SG, rfl, rfl, fun _ _ _ => rfl, fun j q => q⟩ (fun i hi => absurd hi (Nat.not_lt_zero i))
  have OK1 : am_isO K1 E 3 = true := by
    unfold am_isO at OG ⊢
    rw [a1.2.1, a1.2.2.1]
    exact OG
  obtain ⟨K2, b1, b2, b3⟩ := ts_lp (d := d + 1) (w := w) (st := st) (by omega : 130 ≤ E) OK1 (by rw [a1.2.1]; omega) ((a1.2.2.2.1 E 1 (by omega)).trans x1) (by rw [a1.2.2.1]; exact sG2) hl ((a1.2.2.2.1 54 3 (by omega)).trans ((vG0 54 3 (by omega)).trans g3)) (fun i hi => (a1.2.2.2.1 56 i (by omega)).trans ((vG0 56 i (by omega)).trans (g56 i hi))) (l + 1) 0 K1 (by omega) ⟨a1.1, rfl, rfl, fun _ _ _ => rfl, fun j q => q⟩ (fun i hi => absurd hi (Nat.not_lt_zero i))
  have S2 := b1.1
  have n2 : K2.1 = E + 4 := by rw [b1.2.1, a1.2.1, nG]
  have t2 : K2.2.2.1 = G.2.2.1 := b1.2.2.1.trans a1.2.2.1
  have v2 : ∀ c j, c ≠ E + 1 → c ≠ E + 2 → K2.2.2.2 c j = G.2.2.2 c j := fun c j p q => (b1.2.2.2.1 c j q).trans (a1.2.2.2.1 c j p)
  have O2 : am_isO K2 E 3 = true := by
    unfold am_isO at OG ⊢
    rw [b1.2.1, a1.2.1, t2]
    exact OG
  have k3 : K2.2.2.2 54 3 = iv l := (v2 54 3 (by omega) (by omega)).trans ((vG0 54 3 (by omega)).trans g3)
  have k4 : K2.2.2.2 54 4 = .int t := (v2 54 4 (by omega) (by omega)).trans ((vG0 54 4 (by omega)).trans g4)
  have k5 : K2.2.2.2 54 5 = .int u := (v2 54 5 (by omega) (by omega)).trans ((vG0 54 5 (by omega)).trans g5)
  obtain ⟨K3, e3⟩ : ∃ K3 : am_H, K3 = am_put (am_put (am_put K2 E 3 (iv l)) E 4 (.int t)) E 5 (.int u) := ⟨_, rfl⟩
  have v3 : ∀ c j, (c ≠ E ∨ (j ≠ 3 ∧ j ≠ 4 ∧ j ≠ 5)) → K3.2.2.2 c j = K2.2.2.2 c j := fun c j n => by
    rw [e3]
    exact ax_put_o (by omega) (ax_put_o (by omega) (ax_put_o (by omega) rfl))
  have s3 : K3.2.2.1 = G.2.2.1 := by rw [e3]; exact t2
  have n54 : (54 : Nat) ≠ E := by omega
  have r3 : am_ev (d + 3) 47 89 [.ref 54, iv w, .ref E, iv ((l + 1 : Nat) : Int)] [] K2 (some (.ref E), K3) := by
    refine am_ev.step (pc' := 90) rfl rfl ?_
    refine am_ev.step (pc' := 91) rfl rfl ?_
    refine ax_gf (p' := 94) rfl rfl (S2.ob rfl) k3 ?_
    refine ax_pf (p' := 97) rfl rfl O2 rfl ?_
    refine am_ev.step (pc' := 98) rfl rfl ?_
    refine am_ev.step (pc' := 99) rfl rfl ?_
    refine ax_gf (p' := 102) rfl rfl (fO (S2.ob rfl)) (ax_put_o (Or.inl n54) k4) ?_
    refine ax_pf (p' := 105) rfl rfl (fO O2) rfl ?_
    refine am_ev.step (pc' := 106) rfl rfl ?_
    refine am_ev.step (pc' := 107) rfl rfl ?_
    refine ax_gf (p' := 110) rfl rfl (fO (fO (S2.ob rfl))) (ax_put_o (Or.inl n54) (ax_put_o (Or.inl n54) k5)) ?_
    refine ax_pf (p' := 113) rfl rfl (fO (fO O2)) rfl ?_
    rw [← e3]
    refine am_ev.step (pc' := 114) rfl rfl ?_
    exact am_ev.reta rfl rfl
  refine ⟨K3, ?_, ?_, ?_, fun c a => ?_, fun c j a => ?_, ⟨?_, ?_, ?_, ?_⟩, ⟨?_, ?_, ?_⟩, ⟨?_, ?_, ?_, ?_, ?_⟩, fun i hi => ?_, fun i hi => ?_, fun j a hj => ?_, fun k j a p q => ?_⟩
  · show am_ev (d + 3) 47 0 [.ref 54, am_ph, am_ph, am_ph] [] h _
    rw [← eE]
    refine am_ev.step (pc' := 1) rfl rfl ?_
    refine ax_call (z := 48) (p' := 4) (as := [_]) rfl (Or.inr (Or.inl ⟨_, rfl⟩)) rfl rfl rfl rfl rfl rfl (S.ob rfl) rfl (ed_48 (d := d + 1) S hl g3 ((g56 l (Nat.le_refl _)).trans (by rw [wl]))) rfl ?_
    refine am_ev.step (pc' := 5) (ls' := [.ref 54, iv w, am_ph, am_ph]) rfl rfl ?_
    refine am_ev.step (pc' := 8) (ls' := [.ref 54, iv w, am_ph, am_ph]) (st' := [.ref E]) (h' := h0) rfl (by rw [e0, eE]; rfl) ?_
    refine am_ev.step (pc' := 9) rfl rfl ?_
    refine am_ev.step (pc' := 10) rfl rfl ?_
    refine am_ev.step (pc' := 11) rfl rfl ?_
    refine ax_gf (p' := 14) rfl rfl (S0.ob rfl) ((v0 54 3 (by omega)).trans g3) ?_
    refine ax_call (z := 9) (p' := 17) (as := [_, _, _]) rfl (Or.inr (Or.inr ⟨_, rfl⟩)) rfl rfl rfl rfl rfl rfl rfl rfl r9 rfl ?_
    refine am_ev.step (pc' := 18) (ls' := [.ref 54, iv w, .ref E, am_ph]) rfl rfl ?_
    refine am_ev.step (pc' := 19) rfl rfl ?_
    refine am_ev.step (pc' := 20) (ls' := [.ref 54, iv w, .ref E, iv ((0 : Nat) : Int)]) rfl rfl ?_
    refine a3 _ ?_
    refine am_ev.step (pc' := 53) rfl rfl ?_
    refine am_ev.step (pc' := 54) (ls' := [.ref 54, iv w, .ref E, iv ((0 : Nat) : Int)]) rfl rfl ?_
    exact b3 _ r3
  · rw [e3]
    exact ((S2.pd (by omega)).pd (by omega)).pd (by omega)
  · rw [e3, ← eE]
    exact n2
  · rw [s3, tG c (by omega), t0 c a]
  · rw [v3 c j (Or.inl (by omega)), v2 c j (by omega) (by omega), vG0 c j a]
  · rw [s3, ← eE, tG E (by omega), s0]
  · rw [s3, ← eE]
    exact sG1
  · rw [s3, ← eE]
    exact sG2
  · rw [s3, ← eE]
    exact sG3
  · rw [← eE, v3 E 0 (Or.inr (by decide)), v2 E 0 (by omega) (by omega), x0]
  · rw [← eE, v3 E 1 (Or.inr (by decide)), v2 E 1 (by omega) (by omega), x1]
  · rw [← eE, v3 E 2 (Or.inr (by decide)), v2 E 2 (by omega) (by omega), x2]
  · rw [← eE, e3]
    exact ax_put_o (Or.inr (by decide)) (ax_put_o (Or.inr (by decide)) (ax_put_s _ _ _))
  · rw [← eE, e3]
    exact ax_put_o (Or.inr (by decide)) (ax_put_s _ _ _)
  · rw [← eE, e3]
    exact ax_put_s _ _ _
  · rw [← eE, v3 E 6 (Or.inr (by decide)), v2 E 6 (by omega) (by omega), x6]
  · rw [← eE, v3 E 7 (Or.inr (by decide)), v2 E 7 (by omega) (by omega), x7]
  · rw [← eE, v3 (E + 1) i (Or.inl (by omega)), b1.2.2.2.1 (E + 1) i (by omega), a2 i hi, vG0 55 i (by omega)]
  · rw [← eE, v3 (E + 2) i (Or.inl (by omega)), b2 i hi]
  · rw [← eE]
    by_cases e : j = 3 ∨ j = 4 ∨ j = 5
    · rw [e3]
      rcases e with rfl | rfl | rfl
      · rw [ax_put_o (Or.inr (by decide)) (ax_put_o (Or.inr (by decide)) (ax_put_s _ _ _))]
        exact fun z => by cases z
      · rw [ax_put_o (Or.inr (by decide)) (ax_put_s _ _ _)]
        exact fun z => by cases z
      · rw [ax_put_s]
        exact fun z => by cases z
    · rw [v3 E j (Or.inr (by omega)), v2 E j (by omega) (by omega)]
      exact nz j a hj
  · rw [← eE]
    have hk : k = 1 ∨ k = 2 ∨ k = 3 := by omega
    rcases hk with rfl | rfl | rfl
    · rw [v3 (E + 1) j (Or.inl (by omega)), b1.2.2.2.1 (E + 1) j (by omega)]
      exact a1.2.2.2.2 j (fun a z => by rw [z1] at z; cases z) a
    · rw [v3 (E + 2) j (Or.inl (by omega))]
      exact b1.2.2.2.2 j (fun a z => by rw [a1.2.2.2.1 (E + 2) j (by omega), show E + 2 = E + 1 + 1 from rfl, z2] at z; cases z) a
    · rw [v3 (E + 3) j (Or.inl (by omega)), v2 (E + 3) j (by omega) (by omega), show E + 3 = E + 1 + 2 from rfl, z3]
      exact fun z => by cases z
end EDT
/-! EDITIONS: the model's copies with their content -/
/-- rows of a text copied so far from the draft -/
def cV (M : am_H) (t a b c j : Nat) : Value := if (c = 94 ∨ c = 96 ∨ c = 97) ∧ 30 * t ≤ j ∧ j < 30 * t + a then M.2.2.2 c (j - 30 * t + 3600) else if c = 95 ∧ 240 * t ≤ j ∧ j < 240 * t + b then M.2.2.2 95 (j - 240 * t + 28800) else M.2.2.2 c j
def cL (M h : am_H) (t a b : Nat) : Prop := fS h ∧ h.1 = M.1 ∧ h.2.2.1 = M.2.2.1 ∧ ∀ c j, h.2.2.2 c j = cV M t a b c j
section EDL
variable {d : Nat} {h M : am_H} {t i j P c l a b : Nat}
theorem cV_o (n : ¬ ((c = 94 ∨ c = 96 ∨ c = 97) ∧ 30 * t ≤ j ∧ j < 30 * t + a)) (n2 : ¬ (c = 95 ∧ 240 * t ≤ j ∧ j < 240 * t + b)) : cV M t a b c j = M.2.2.2 c j := (if_neg n).trans (if_neg n2)
theorem cV_3 (n : c = 94 ∨ c = 96 ∨ c = 97) (n2 : j < a) : cV M t a b c (30 * t + j) = M.2.2.2 c (j + 3600) := by
  unfold cV
  rw [if_pos ⟨n, by omega, by omega⟩, show 30 * t + j - 30 * t + 3600 = j + 3600 by omega]
theorem cV_5 (n2 : j < b) : cV M t a b 95 (240 * t + j) = M.2.2.2 95 (j + 28800) := by
  unfold cV
  rw [if_neg (by omega), if_pos ⟨rfl, by omega, by omega⟩, show 240 * t + j - 240 * t + 28800 = j + 28800 by omega]
theorem cL.p5 (K : cL M h t a b) {v : Value} {k : Nat} (hk : k = 240 * t + b) (e : M.2.2.2 95 (b + 28800) = v) : cL M (am_put h 95 k v) t a (b + 1) := by
  obtain ⟨q1, q2, q3, q4⟩ := K
  refine ⟨q1.pa rfl, q2, q3, fun c j => ?_⟩
  by_cases z : c = 95 ∧ j = k
  · obtain ⟨rfl, rfl⟩ := z
    rw [ax_put_s, hk, cV_5 (by omega), e]
  · rw [ax_put_o (by omega) rfl, q4 c j]
    unfold cV
    by_cases z1 : (c = 94 ∨ c = 96 ∨ c = 97) ∧ 30 * t ≤ j ∧ j < 30 * t + a
    · rw [if_pos z1, if_pos z1]
    · rw [if_neg z1, if_neg z1]
      by_cases z2 : c = 95 ∧ 240 * t ≤ j ∧ j < 240 * t + b
      · rw [if_pos z2, if_pos (by omega)]
      · rw [if_neg z2, if_neg (by omega)]
theorem cL.p3 (K : cL M h t a b) {x y w : Value} {k : Nat} (hk : k = 30 * t + a) (e4 : M.2.2.2 94 (a + 3600) = x) (e6 : M.2.2.2 96 (a + 3600) = y) (e7 : M.2.2.2 97 (a + 3600) = w) : cL M (am_put (am_put (am_put h 94 k x) 96 k y) 97 k w) t (a + 1) b := by
  obtain ⟨q1, q2, q3, q4⟩ := K
  refine ⟨((q1.pa rfl).pa rfl).pa rfl, q2, q3, fun c j => ?_⟩
  by_cases z : (c = 94 ∨ c = 96 ∨ c = 97) ∧ j = k
  · obtain ⟨z, rfl⟩ := z
    rw [hk, cV_3 z (by omega)]
    rcases z with rfl | rfl | rfl
    · rw [ax_put_o (Or.inl (by decide)) (ax_put_o (Or.inl (by decide)) (ax_put_s _ _ _)), e4]
    · rw [ax_put_o (Or.inl (by decide)) (ax_put_s _ _ _), e6]
    · rw [ax_put_s, e7]
  · rw [ax_put_o (by omega) (ax_put_o (by omega) (ax_put_o (by omega) rfl)), q4 c j]
    unfold cV
    by_cases z1 : (c = 94 ∨ c = 96 ∨ c = 97) ∧ 30 * t ≤ j ∧ j < 30 * t + a
    · have z2 : (c = 94 ∨ c = 96 ∨ c = 97) ∧ 30 * t ≤ j ∧ j < 30 * t + (a + 1) := by omega
      rw [if_pos z1, if_pos z2]
    · have z2 : ¬ ((c = 94 ∨ c = 96 ∨ c = 97) ∧ 30 * t ≤ j ∧ j < 30 * t + (a + 1)) := by omega
      rw [if_neg z1, if_neg z2]
theorem dk_j (kt : kT M) (ht : t < 120) (hi : i < 30) : ∀ (m j : Nat) (h : am_H), j + m = 8 → cL M h t (i + 1) (8 * i + j) → ∃ H, cL M H t (i + 1) (8 * i + 8) ∧ ∀ x, am_ev (d + 1) 189 186 [.ref 78, iv P, iv t, iv i, iv ((8 : Nat) : Int)] [] H x → am_ev (d + 1) 189 140 [.ref 78, iv P, iv t, iv i, iv j] [] h x
  | 0, j, h, hj, K => by
    have S := K.1
    have e : j = 8 := by omega
    subst e
    refine ⟨h, K, fun x q9 => ?_⟩
    refine am_ev.step (pc' := 142) rfl rfl ?_
    refine fx_bip (p' := 144) rfl rfl rfl ?_
    refine fx_c_ge_T (pT := 186) rfl (by omega) (by omega) rfl (by omega) ?_
    exact q9
  | m + 1, j, h, hj, K => by
    have S := K.1
    obtain ⟨x, ex⟩ := kt.2 (8 * i + j) (by omega)
    have gx : h.2.2.2 95 (8 * i + j + 28800) = .long x := by
      rw [K.2.2.2 95 (8 * i + j + 28800), cV_o (by omega) (by omega)]
      exact ex
    obtain ⟨H, KH, q2⟩ := dk_j kt ht hi m (j + 1) (am_put h 95 (8 * (30 * t + i) + j) (.long x)) (by omega) (K.p5 (by omega) ex)
    refine ⟨H, KH, fun x q9 => ?_⟩
    refine am_ev.step (pc' := 142) rfl rfl ?_
    refine fx_bip (p' := 144) rfl rfl rfl ?_
    refine fx_c_ge_F (pF := 147) rfl (by omega) (by omega) rfl (by omega) ?_
    refine am_ev.step (pc' := 148) rfl rfl ?_
    refine ax_gf (p' := 151) rfl rfl (S.ob rfl) (S.rf rfl rfl) ?_
    refine fx_bip (p' := 153) rfl rfl rfl ?_
    refine am_ev.step (pc' := 154) rfl rfl ?_
    refine am_ev.step (pc' := 155) rfl rfl ?_
    refine ax_call (z := 191) (p' := 158) (as := [_, _]) rfl (Or.inl ⟨_, rfl⟩) rfl rfl rfl rfl rfl rfl rfl rfl (ed_191g (t := t) (i := i)) rfl ?_
    refine fx_mul (p' := 159) (e := (240 * (t : Int) + 8 * (i : Int))) rfl rfl (by omega) ?_
    refine am_ev.step (pc' := 161) rfl rfl ?_
    refine fx_add (p' := 162) (e := (240 * (t : Int) + 8 * (i : Int) + (j : Int))) rfl rfl (by omega) ?_
    refine am_ev.step (pc' := 163) rfl rfl ?_
    refine ax_gf (p' := 166) rfl rfl (S.ob rfl) (S.rf rfl rfl) ?_
    refine fx_bip (p' := 168) rfl rfl rfl ?_
    refine fx_bip (p' := 170) rfl rfl rfl ?_
    refine am_ev.step (pc' := 171) rfl rfl ?_
    refine ax_call (z := 191) (p' := 174) (as := [_, _]) rfl (Or.inl ⟨_, rfl⟩) rfl rfl rfl rfl rfl rfl rfl rfl (ed_191 (s := i)) rfl ?_
    refine fx_mul (p' := 175) (e := (8 * (i : Int) + 28800)) rfl rfl (by omega) ?_
    refine am_ev.step (pc' := 177) rfl rfl ?_
    refine fx_add (p' := 178) (e := (8 * (i : Int) + (j : Int) + 28800)) rfl rfl (by omega) ?_
    refine ax_laload (p' := 179) rfl rfl (S.rd (k := 8 * i + j + 28800) rfl rfl rfl rfl (by omega) (by omega) gx) ?_
    refine fx_las (p' := 180) rfl rfl (S.wr (k := 8 * (30 * t + i) + j) rfl rfl rfl (by omega) (by omega)) ?_
    refine fx_inc (p' := 183) (e := ((j : Int) + 1)) (ls' := [.ref 78, iv ((P : Int)), iv ((t : Int)), iv ((i : Int)), iv ((j : Int) + 1)]) rfl rfl rfl (by omega) rfl ?_
    refine am_ev.step (pc' := 140) rfl rfl ?_
    exact q2 x (rr_n ▸ q9)
theorem dk_i (kt : kT M) (ht : t < 120) : ∀ (m i : Nat) (x4 : Value) (h : am_H), i + m = 30 → cL M h t i (8 * i) → ∃ (H : am_H) (y4 : Value), cL M H t 30 240 ∧ ∀ x, am_ev (d + 1) 189 192 [.ref 78, iv P, iv t, iv ((30 : Nat) : Int), y4] [] H x → am_ev (d + 1) 189 68 [.ref 78, iv P, iv t, iv i, x4] [] h x
  | 0, i, x4, h, hi, K => by
    have S := K.1
    have e : i = 30 := by omega
    subst e
    refine ⟨h, x4, K, fun x q9 => ?_⟩
    refine am_ev.step (pc' := 69) rfl rfl ?_
    refine fx_bip (p' := 71) rfl rfl rfl ?_
    refine fx_c_ge_T (pT := 192) rfl (by omega) (by omega) rfl (by omega) ?_
    exact q9
  | m + 1, i, x4, h, hi, K => by
    have S := K.1
    obtain ⟨⟨x, ex⟩, ⟨y, ey, uy⟩, ⟨w, ew, uw⟩⟩ := kt.1 i (by omega)
    have gx : h.2.2.2 94 (i + 3600) = .int x := by
      rw [K.2.2.2 94 (i + 3600), cV_o (by omega) (by omega)]
      exact ex
    have gy : h.2.2.2 96 (i + 3600) = .int y := by
      rw [K.2.2.2 96 (i + 3600), cV_o (by omega) (by omega)]
      exact ey
    have gw : h.2.2.2 97 (i + 3600) = .int w := by
      rw [K.2.2.2 97 (i + 3600), cV_o (by omega) (by omega)]
      exact ew
    have K3 := K.p3 (k := 30 * t + i) rfl ex ey ew
    obtain ⟨H, KH, q2⟩ := dk_j (d := d) (P := P) kt ht (by omega : i < 30) 8 0 _ (by omega) K3
    have SH := KH.1
    obtain ⟨H', y4, KH', q3⟩ := dk_i kt ht m (i + 1) (iv ((8 : Nat) : Int)) H (by omega) KH
    refine ⟨H', y4, KH', fun x q9 => ?_⟩
    refine am_ev.step (pc' := 69) rfl rfl ?_
    refine fx_bip (p' := 71) rfl rfl rfl ?_
    refine fx_c_ge_F (pF := 74) rfl (by omega) (by omega) rfl (by omega) ?_
    refine am_ev.step (pc' := 75) rfl rfl ?_
    refine ax_gf (p' := 78) rfl rfl (S.ob rfl) (S.rf rfl rfl) ?_
    refine am_ev.step (pc' := 79) rfl rfl ?_
    refine am_ev.step (pc' := 80) rfl rfl ?_
    refine ax_call (z := 191) (p' := 83) (as := [_, _]) rfl (Or.inl ⟨_, rfl⟩) rfl rfl rfl rfl rfl rfl rfl rfl (ed_191g (t := t) (i := i)) rfl ?_
    refine am_ev.step (pc' := 84) rfl rfl ?_
    refine ax_gf (p' := 87) rfl rfl (S.ob rfl) (S.rf rfl rfl) ?_
    refine fx_bip (p' := 89) rfl rfl rfl ?_
    refine am_ev.step (pc' := 90) rfl rfl ?_
    refine ax_call (z := 191) (p' := 93) (as := [_, _]) rfl (Or.inl ⟨_, rfl⟩) rfl rfl rfl rfl rfl rfl rfl rfl (ed_191 (s := i)) rfl ?_
    refine ax_iaload (p' := 94) rfl rfl (S.rd (k := (i + 3600)) rfl rfl rfl rfl (by omega) (by omega) gx) ?_
    refine ax_iastore (p' := 95) rfl rfl (S.wr (k := 30 * t + i) rfl rfl rfl (by omega) (by omega)) ?_
    refine am_ev.step (pc' := 96) rfl rfl ?_
    refine ax_gf (p' := 99) rfl rfl (fO (S.ob rfl)) (ax_put_o (Or.inl (by decide)) (S.rf rfl rfl)) ?_
    refine am_ev.step (pc' := 100) rfl rfl ?_
    refine am_ev.step (pc' := 101) rfl rfl ?_
    refine ax_call (z := 191) (p' := 104) (as := [_, _]) rfl (Or.inl ⟨_, rfl⟩) rfl rfl rfl rfl rfl rfl rfl rfl (ed_191g (t := t) (i := i)) rfl ?_
    refine am_ev.step (pc' := 105) rfl rfl ?_
    refine ax_gf (p' := 108) rfl rfl (fO (S.ob rfl)) (ax_put_o (Or.inl (by decide)) (S.rf rfl rfl)) ?_
    refine fx_bip (p' := 110) rfl rfl rfl ?_
    refine am_ev.step (pc' := 111) rfl rfl ?_
    refine ax_call (z := 191) (p' := 114) (as := [_, _]) rfl (Or.inl ⟨_, rfl⟩) rfl rfl rfl rfl rfl rfl rfl rfl (ed_191 (s := i)) rfl ?_
    refine ax_baload (p' := 115) rfl rfl ((S.pa rfl).rd (k := (i + 3600)) rfl rfl rfl rfl (by omega) (by omega) (ax_put_o (by omega) gy)) ?_
    refine ax_bas2 (p' := 116) rfl rfl ((S.pa rfl).wr (k := 30 * t + i) rfl rfl rfl (by omega) (by omega)) ((S.pa rfl).sb rfl rfl) uy ?_
    refine am_ev.step (pc' := 117) rfl rfl ?_
    refine ax_gf (p' := 120) rfl rfl (fO (fO (S.ob rfl))) (ax_put_o (Or.inl (by decide)) (ax_put_o (Or.inl (by decide)) (S.rf rfl rfl))) ?_
    refine am_ev.step (pc' := 121) rfl rfl ?_
    refine am_ev.step (pc' := 122) rfl rfl ?_
    refine ax_call (z := 191) (p' := 125) (as := [_, _]) rfl (Or.inl ⟨_, rfl⟩) rfl rfl rfl rfl rfl rfl rfl rfl (ed_191g (t := t) (i := i)) rfl ?_
    refine am_ev.step (pc' := 126) rfl rfl ?_
    refine ax_gf (p' := 129) rfl rfl (fO (fO (S.ob rfl))) (ax_put_o (Or.inl (by decide)) (ax_put_o (Or.inl (by decide)) (S.rf rfl rfl))) ?_
    refine fx_bip (p' := 131) rfl rfl rfl ?_
    refine am_ev.step (pc' := 132) rfl rfl ?_
    refine ax_call (z := 191) (p' := 135) (as := [_, _]) rfl (Or.inl ⟨_, rfl⟩) rfl rfl rfl rfl rfl rfl rfl rfl (ed_191 (s := i)) rfl ?_
    refine ax_baload (p' := 136) rfl rfl (((S.pa rfl).pa rfl).rd (k := (i + 3600)) rfl rfl rfl rfl (by omega) (by omega) (ax_put_o (by omega) (ax_put_o (by omega) gw))) ?_
    refine ax_bas2 (p' := 137) rfl rfl (((S.pa rfl).pa rfl).wr (k := 30 * t + i) rfl rfl rfl (by omega) (by omega)) (((S.pa rfl).pa rfl).sb rfl rfl) uw ?_
    refine am_ev.step (pc' := 138) rfl rfl ?_
    refine am_ev.step (pc' := 140) (ls' := [.ref 78, iv ((P : Int)), iv ((t : Int)), iv ((i : Int)), iv 0]) rfl rfl ?_
    exact q2 _ (by
      refine fx_inc (p' := 189) (e := ((i : Int) + 1)) (ls' := [.ref 78, iv ((P : Int)), iv ((t : Int)), iv ((i : Int) + 1), iv 8]) rfl rfl rfl (by omega) rfl ?_
      refine am_ev.step (pc' := 68) rfl rfl ?_
      exact q3 _ (rr_n ▸ q9))
theorem eq_v (hP : P ≤ 39) (hc : c ≤ 2) (S : fS h) (kt : kT h) (g92 : h.2.2.2 92 P = iv c) (gl : h.2.2.2 93 120 = iv l) {x2 x3 x4 : Value} : ∃ H : am_H, am_ev (d + 1) 189 42 [.ref 78, iv P, x2, x3, x4] [] h (some (iv c), H) ∧ ∀ c' j, H.2.2.2 c' j = if c' = 92 ∧ j = P then iv ((c : Int) + 1) else cV (am_put h 93 (3 * P + c) (iv l)) (3 * P + c) 30 240 c' j := by
  obtain ⟨t, et⟩ : ∃ t, t = 3 * P + c := ⟨_, rfl⟩
  have e194 : am_ev d 194 0 (am_ent [iv P, iv c] 2) [] h (some (iv (t : Int)), h) := by
    rw [show (t : Int) = (3 * (P : Int) + (c : Int)) by omega]
    exact ed_194
  have kt' : kT (am_put h 93 t (iv l)) := kt.po (Or.inl (by decide))
  have K0 : cL (am_put h 93 t (iv l)) (am_put h 93 t (iv l)) t 0 (8 * 0) := ⟨S.pa rfl, rfl, rfl, fun c' j => by
    unfold cV
    rw [if_neg (by omega), if_neg (by omega)]⟩
  obtain ⟨K, y4, KK, q2⟩ := dk_i (d := d) (M := am_put h 93 t (iv l)) (P := P) (t := t) kt' (by omega) 30 0 x4 (am_put h 93 t (iv l)) (by omega) K0
  have SK := KK.1
  have gK : K.2.2.2 92 P = iv c := by
    rw [KK.2.2.2 92 P, cV_o (by omega) (by omega)]
    exact ax_put_o (Or.inl (by decide)) g92
  rw [← et]
  refine ⟨am_put K 92 P (iv ((c : Int) + 1)), ?_, fun c' j => ?_⟩
  rotate_left
  · by_cases z : c' = 92 ∧ j = P
    · obtain ⟨rfl, rfl⟩ := z
      rw [if_pos ⟨rfl, rfl⟩]
      exact ax_put_s _ _ _
    · rw [if_neg z, ax_put_o (by omega) rfl]
      exact KK.2.2.2 c' j
  refine am_ev.step (pc' := 43) rfl rfl ?_
  refine am_ev.step (pc' := 44) rfl rfl ?_
  refine ax_gf (p' := 47) rfl rfl (S.ob rfl) (S.rf rfl rfl) ?_
  refine am_ev.step (pc' := 48) rfl rfl ?_
  refine ax_iaload (p' := 49) rfl rfl (S.rd (k := P) rfl rfl rfl rfl rfl (by omega) g92) ?_
  refine ax_call (z := 194) (p' := 52) (as := [_, _]) rfl (Or.inl ⟨_, rfl⟩) rfl rfl rfl rfl rfl rfl rfl rfl e194 rfl ?_
  refine am_ev.step (pc' := 53) (ls' := [.ref 78, iv ((P : Int)), iv ((t : Int)), x3, x4]) rfl rfl ?_
  refine am_ev.step (pc' := 54) rfl rfl ?_
  refine ax_gf (p' := 57) rfl rfl (S.ob rfl) (S.rf rfl rfl) ?_
  refine am_ev.step (pc' := 58) rfl rfl ?_
  refine am_ev.step (pc' := 59) rfl rfl ?_
  refine ax_gf (p' := 62) rfl rfl (S.ob rfl) (S.rf rfl rfl) ?_
  refine fx_bip (p' := 64) rfl rfl rfl ?_
  refine ax_iaload (p' := 65) rfl rfl (S.rd (k := 120) rfl rfl rfl rfl rfl (by decide) gl) ?_
  refine ax_iastore (p' := 66) rfl rfl (S.wr (k := t) rfl rfl rfl rfl (by omega)) ?_
  refine am_ev.step (pc' := 67) rfl rfl ?_
  refine am_ev.step (pc' := 68) (ls' := [.ref 78, iv ((P : Int)), iv ((t : Int)), iv 0, x4]) rfl rfl ?_
  refine q2 _ ?_
  refine am_ev.step (pc' := 193) rfl rfl ?_
  refine ax_gf (p' := 196) rfl rfl (SK.ob rfl) (SK.rf rfl rfl) ?_
  refine am_ev.step (pc' := 197) rfl rfl ?_
  refine am_ev.step (pc' := 198) rfl rfl ?_
  refine ax_iaload (p' := 199) rfl rfl (SK.rd (k := P) rfl rfl rfl rfl rfl (by omega) gK) ?_
  refine am_ev.step (pc' := 200) rfl rfl ?_
  refine fx_add (p' := 201) (e := ((c : Int) + 1)) rfl rfl (by omega) ?_
  refine ax_iastore (p' := 202) rfl rfl (SK.wr (k := P) rfl rfl rfl rfl (by omega)) ?_
  refine am_ev.step (pc' := 203) rfl rfl ?_
  refine ax_gf (p' := 206) rfl rfl (fO (SK.ob rfl)) (ax_put_o (Or.inl (by decide)) (SK.rf rfl rfl)) ?_
  refine am_ev.step (pc' := 207) rfl rfl ?_
  refine ax_iaload (p' := 208) rfl rfl ((SK.pa rfl).rd (k := P) rfl rfl rfl rfl rfl (by omega) (ax_put_s _ _ _)) ?_
  refine am_ev.step (pc' := 209) rfl rfl ?_
  refine fx_sub (p' := 210) (e := ((c : Int))) rfl rfl (by omega) ?_
  exact fx_reti rfl rfl rfl
end EDL
