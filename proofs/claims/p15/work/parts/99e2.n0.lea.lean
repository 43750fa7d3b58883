/-! LEAVES, the program's side -/
def tx_l (c : Nat) : Nat := match c with
  | 0 => 7
  | 1 => 15
  | 2 => 4
  | 3 => 1
  | 4 => 3
  | _ => 2
theorem tx_l_lt (c : Nat) : tx_l c < 16 := by
  unfold tx_l
  split <;> decide
/-- which clause of a leave a token begins: 0 to 5, -1 none -/
def cl_l (b : Nat → Int) (s e : Nat) (k c : Int) : Prop := (∃ n : Nat, n < 6 ∧ c = n ∧ tz_w b s e k (tx_l n)) ∨ (c = -1 ∧ ∀ n, n < 6 → ¬ tz_w b s e k (tx_l n))
theorem cl_l_ex (b : Nat → Int) (s e : Nat) (k : Int) : ∃ c, cl_l b s e k c := by
  by_cases q : ∃ n : Nat, n < 6 ∧ tz_w b s e k (tx_l n)
  · obtain ⟨n, a, c⟩ := q
    exact ⟨n, Or.inl ⟨n, a, rfl, c⟩⟩
  · exact ⟨-1, Or.inr ⟨rfl, fun n a c => q ⟨n, a, c⟩⟩⟩
theorem cl_l_w {b : Nat → Int} {s e : Nat} {k c : Int} (q : cl_l b s e k c) {n : Nat} (hn : n < 6) : (c = n → tz_w b s e k (tx_l n)) ∧ (c ≠ n → ¬ tz_w b s e k (tx_l n)) := by
  have inj : ∀ n, n < 6 → ∀ m, m < 6 → tx_l n = tx_l m → n = m := by decide +kernel
  rcases q with ⟨m, a, e1, w⟩ | ⟨e1, w⟩
  · refine ⟨fun z => ?_, fun z y => ?_⟩
    · have : n = m := by omega
      rw [this]
      exact w
    · have := inj n hn m a (tz_wx (tx_l_lt n) (tx_l_lt m) y w)
      omega
  · exact ⟨fun z => by omega, fun z => w n hn⟩
/-- which way of a fee a token tells: 0 line, 1 page, 2 all, -1 none -/
def tx_f (c : Nat) : Nat := match c with
  | 0 => 8
  | 1 => 10
  | _ => 0
theorem tx_f_lt (c : Nat) : tx_f c < 16 := by
  unfold tx_f
  split <;> decide
def cl_f (b : Nat → Int) (s e : Nat) (k c : Int) : Prop := (∃ n : Nat, n < 3 ∧ c = n ∧ tz_w b s e k (tx_f n)) ∨ (c = -1 ∧ ∀ n, n < 3 → ¬ tz_w b s e k (tx_f n))
theorem cl_f_ex (b : Nat → Int) (s e : Nat) (k : Int) : ∃ c, cl_f b s e k c := by
  by_cases q : ∃ n : Nat, n < 3 ∧ tz_w b s e k (tx_f n)
  · obtain ⟨n, a, c⟩ := q
    exact ⟨n, Or.inl ⟨n, a, rfl, c⟩⟩
  · exact ⟨-1, Or.inr ⟨rfl, fun n a c => q ⟨n, a, c⟩⟩⟩
theorem cl_f_w {b : Nat → Int} {s e : Nat} {k c : Int} (q : cl_f b s e k c) {n : Nat} (hn : n < 3) : (c = n → tz_w b s e k (tx_f n)) ∧ (c ≠ n → ¬ tz_w b s e k (tx_f n)) := by
  have inj : ∀ n, n < 3 → ∀ m, m < 3 → tx_f n = tx_f m → n = m := by decide +kernel
  rcases q with ⟨m, a, e1, w⟩ | ⟨e1, w⟩
  · refine ⟨fun z => ?_, fun z y => ?_⟩
    · have : n = m := by omega
      rw [this]
      exact w
    · have := inj n hn m a (tz_wx (tx_f_lt n) (tx_f_lt m) y w)
      omega
  · exact ⟨fun z => by omega, fun z => w n hn⟩
/-- a switch -/
theorem fx_ts {d y pc p' : Nat} {ls r : List Value} {h : am_H} {x : Option Value × am_H} {l a b w : Nat} {t x1 dd lo hi oo : Int} {offs : Array Int} (hc : am_at y pc (.tableswitch dd lo hi offs, l, t, a, b, w)) (b1 : -2147483648 ≤ x1 ∧ x1 ≤ 2147483647) (hr : lo ≤ x1 ∧ x1 ≤ hi) (ho : offs[(x1 - lo).toNat]? = some oo) (hp : ((pc : Int) + oo).toNat = p') (q : am_ev d y p' ls r h x) : am_ev d y pc ls (iv x1 :: r) h x := by
  subst hp
  refine am_ev.step hc ?_ q
  dsimp only [am_st]
  rw [fx_ti b1, if_neg (by omega), ho]
theorem fx_td {d y pc p' : Nat} {ls r : List Value} {h : am_H} {x : Option Value × am_H} {l a b w : Nat} {t x1 dd lo hi : Int} {offs : Array Int} (hc : am_at y pc (.tableswitch dd lo hi offs, l, t, a, b, w)) (b1 : -2147483648 ≤ x1 ∧ x1 ≤ 2147483647) (hr : x1 < lo ∨ hi < x1) (hp : ((pc : Int) + dd).toNat = p') (q : am_ev d y p' ls r h x) : am_ev d y pc ls (iv x1 :: r) h x := by
  subst hp
  refine am_ev.step hc ?_ q
  dsimp only [am_st]
  rw [fx_ti b1, if_pos hr]
section LEA
variable {d : Nat} {h : am_H} {b : Nat → Int} {L p s e s1 e1 s2 e2 s3 e3 l q : Nat} {k k1 k2 k3 v v1 v2 v3 c : Int} {t : Int32}
theorem le_81a (S : fS h) (B : tb h 42 b L) (hb : tz_r b) (hL : L ≤ 1600) (w1 : h.2.2.2 41 1 = iv L) (v6 : h.2.2.2 41 6 = iv e) (O : am_isO h q 4 = true) (hq : 130 ≤ q) (t1 : tz_t b L e s1 e1 k1 v1) (q1 : k1 ≠ 2) : am_ev (d + 3) 81 0 (am_ent [.ref q, .ref 41] 2) [] h (some (iv 0), (am_put (am_put (am_put (am_put (am_put h 41 5 (iv ((s1 : Int)))) 41 6 (iv ((e1 : Int)))) 41 2 (iv (k1))) 41 3 (iv 1)) 41 4 (iv ((s1 : Int))))) := by
  show am_ev (d + 3) 81 0 [.ref q, .ref 41] [] h _
  refine am_ev.step (pc' := 1) rfl rfl ?_
  refine am_ev.step (pc' := 2) rfl rfl ?_
  refine fx_sip (p' := 5) rfl rfl rfl ?_
  refine ax_call (z := 28) (p' := 8) (as := [_, _, _]) rfl (Or.inr (Or.inl ⟨_, rfl⟩)) rfl rfl rfl rfl rfl rfl (S.ob rfl) rfl (tk_28a (lo := 0) (hi := 29999) (by omega) S B hb hL w1 v6 t1 q1) rfl ?_
  refine fx_z_ne_F (pF := 11) rfl (by omega) rfl (by omega) ?_
  refine am_ev.step (pc' := 12) rfl rfl ?_
  exact fx_reti rfl rfl rfl
theorem le_81b (S : fS h) (B : tb h 42 b L) (hb : tz_r b) (hL : L ≤ 1600) (w1 : h.2.2.2 41 1 = iv L) (v6 : h.2.2.2 41 6 = iv e) (O : am_isO h q 4 = true) (hq : 130 ≤ q) (t1 : tz_t b L e s1 e1 k1 v1) (q1 : k1 = 2 ∧ ¬ (0 ≤ v1 ∧ v1 ≤ 29999)) : am_ev (d + 3) 81 0 (am_ent [.ref q, .ref 41] 2) [] h (some (iv 0), (am_put (am_put (am_put (am_put (am_put h 41 5 (iv ((s1 : Int)))) 41 6 (iv ((e1 : Int)))) 41 2 (iv (k1))) 41 3 (iv 2)) 41 4 (iv ((s1 : Int))))) := by
  show am_ev (d + 3) 81 0 [.ref q, .ref 41] [] h _
  refine am_ev.step (pc' := 1) rfl rfl ?_
  refine am_ev.step (pc' := 2) rfl rfl ?_
  refine fx_sip (p' := 5) rfl rfl rfl ?_
  refine ax_call (z := 28) (p' := 8) (as := [_, _, _]) rfl (Or.inr (Or.inl ⟨_, rfl⟩)) rfl rfl rfl rfl rfl rfl (S.ob rfl) rfl (tk_28b (lo := 0) (hi := 29999) (by omega) S B hb hL w1 v6 t1 q1) rfl ?_
  refine fx_z_ne_F (pF := 11) rfl (by omega) rfl (by omega) ?_
  refine am_ev.step (pc' := 12) rfl rfl ?_
  exact fx_reti rfl rfl rfl
theorem le_81d (S : fS h) (B : tb h 42 b L) (hb : tz_r b) (hL : L ≤ 1600) (w1 : h.2.2.2 41 1 = iv L) (v6 : h.2.2.2 41 6 = iv e) (O : am_isO h q 4 = true) (hq : 130 ≤ q) (t1 : tz_t b L e s1 e1 k1 v1) (q1 : k1 = 2 ∧ 0 ≤ v1 ∧ v1 ≤ 29999) (t2 : tz_t b L e1 s2 e2 k2 v2) (q2 : k2 ≠ 59) : am_ev (d + 3) 81 0 (am_ent [.ref q, .ref 41] 2) [] h (some (iv 0), (am_put (am_put (am_put (am_put (am_put (am_put (am_put (am_put (am_put h 41 5 (iv ((s1 : Int)))) 41 6 (iv ((e1 : Int)))) 41 2 (iv (k1))) q 3 (iv (v1))) 41 5 (iv ((s2 : Int)))) 41 6 (iv ((e2 : Int)))) 41 2 (iv (k2))) 41 3 (iv 1)) 41 4 (iv ((s2 : Int))))) := by
  show am_ev (d + 3) 81 0 [.ref q, .ref 41] [] h _
  refine am_ev.step (pc' := 1) rfl rfl ?_
  refine am_ev.step (pc' := 2) rfl rfl ?_
  refine fx_sip (p' := 5) rfl rfl rfl ?_
  refine ax_call (z := 28) (p' := 8) (as := [_, _, _]) rfl (Or.inr (Or.inl ⟨_, rfl⟩)) rfl rfl rfl rfl rfl rfl (S.ob rfl) rfl (tk_28c (lo := 0) (hi := 29999) (by omega) S B hb hL w1 v6 t1 q1) rfl ?_
  refine fx_z_ne_T (pT := 13) rfl (by omega) rfl (by omega) ?_
  refine am_ev.step (pc' := 14) rfl rfl ?_
  refine am_ev.step (pc' := 15) rfl rfl ?_
  refine ax_call (z := 30) (p' := 18) (as := [_]) rfl (Or.inr (Or.inl ⟨_, rfl⟩)) rfl rfl rfl rfl rfl rfl (fO (fO (fO (S.ob rfl)))) rfl (tk_30w (((S.po rfl rfl).po rfl rfl).po rfl rfl) (((B.put (by decide)).put (by decide)).put (by decide)) hb hL (ax_put_o (Or.inr (by decide)) (ax_put_o (Or.inr (by decide)) (ax_put_o (Or.inr (by decide)) w1))) (ax_put_o (Or.inr (by decide)) (ax_put_o (Or.inr (by decide)) (ax_put_s _ _ _))) (ax_put_o (Or.inr (by decide)) (ax_put_s _ _ _)) t1) rfl ?_
  refine ax_pf (p' := 21) rfl rfl (fO (fO (fO O))) rfl ?_
  refine am_ev.step (pc' := 22) rfl rfl ?_
  refine ax_call (z := 32) (p' := 25) (as := [_]) rfl (Or.inr (Or.inl ⟨_, rfl⟩)) rfl rfl rfl rfl rfl rfl (fO (fO (fO (fO (S.ob rfl))))) rfl (tk_32a ((((S.po rfl rfl).po rfl rfl).po rfl rfl).pd (by omega)) ((((B.put (by decide)).put (by decide)).put (by decide)).put (by omega)) hb hL (ax_put_o (Or.inl (by omega)) (ax_put_o (Or.inr (by decide)) (ax_put_o (Or.inr (by decide)) (ax_put_o (Or.inr (by decide)) w1)))) (ax_put_o (Or.inl (by omega)) (ax_put_o (Or.inr (by decide)) (ax_put_s _ _ _))) t2 q2) rfl ?_
  exact fx_reti rfl rfl rfl
theorem le_81e (S : fS h) (B : tb h 42 b L) (hb : tz_r b) (hL : L ≤ 1600) (w1 : h.2.2.2 41 1 = iv L) (v6 : h.2.2.2 41 6 = iv e) (O : am_isO h q 4 = true) (hq : 130 ≤ q) (t1 : tz_t b L e s1 e1 k1 v1) (q1 : k1 = 2 ∧ 0 ≤ v1 ∧ v1 ≤ 29999) (t2 : tz_t b L e1 s2 e2 k2 v2) (q2 : k2 = 59) : am_ev (d + 3) 81 0 (am_ent [.ref q, .ref 41] 2) [] h (some (iv 1), (am_put (am_put (am_put (am_put (am_put (am_put (am_put h 41 5 (iv ((s1 : Int)))) 41 6 (iv ((e1 : Int)))) 41 2 (iv (k1))) q 3 (iv (v1))) 41 5 (iv ((s2 : Int)))) 41 6 (iv ((e2 : Int)))) 41 2 (iv (k2)))) := by
  show am_ev (d + 3) 81 0 [.ref q, .ref 41] [] h _
  refine am_ev.step (pc' := 1) rfl rfl ?_
  refine am_ev.step (pc' := 2) rfl rfl ?_
  refine fx_sip (p' := 5) rfl rfl rfl ?_
  refine ax_call (z := 28) (p' := 8) (as := [_, _, _]) rfl (Or.inr (Or.inl ⟨_, rfl⟩)) rfl rfl rfl rfl rfl rfl (S.ob rfl) rfl (tk_28c (lo := 0) (hi := 29999) (by omega) S B hb hL w1 v6 t1 q1) rfl ?_
  refine fx_z_ne_T (pT := 13) rfl (by omega) rfl (by omega) ?_
  refine am_ev.step (pc' := 14) rfl rfl ?_
  refine am_ev.step (pc' := 15) rfl rfl ?_
  refine ax_call (z := 30) (p' := 18) (as := [_]) rfl (Or.inr (Or.inl ⟨_, rfl⟩)) rfl rfl rfl rfl rfl rfl (fO (fO (fO (S.ob rfl)))) rfl (tk_30w (((S.po rfl rfl).po rfl rfl).po rfl rfl) (((B.put (by decide)).put (by decide)).put (by decide)) hb hL (ax_put_o (Or.inr (by decide)) (ax_put_o (Or.inr (by decide)) (ax_put_o (Or.inr (by decide)) w1))) (ax_put_o (Or.inr (by decide)) (ax_put_o (Or.inr (by decide)) (ax_put_s _ _ _))) (ax_put_o (Or.inr (by decide)) (ax_put_s _ _ _)) t1) rfl ?_
  refine ax_pf (p' := 21) rfl rfl (fO (fO (fO O))) rfl ?_
  refine am_ev.step (pc' := 22) rfl rfl ?_
  refine ax_call (z := 32) (p' := 25) (as := [_]) rfl (Or.inr (Or.inl ⟨_, rfl⟩)) rfl rfl rfl rfl rfl rfl (fO (fO (fO (fO (S.ob rfl))))) rfl (tk_32b ((((S.po rfl rfl).po rfl rfl).po rfl rfl).pd (by omega)) ((((B.put (by decide)).put (by decide)).put (by decide)).put (by omega)) hb hL (ax_put_o (Or.inl (by omega)) (ax_put_o (Or.inr (by decide)) (ax_put_o (Or.inr (by decide)) (ax_put_o (Or.inr (by decide)) w1)))) (ax_put_o (Or.inl (by omega)) (ax_put_o (Or.inr (by decide)) (ax_put_s _ _ _))) t2 q2) rfl ?_
  exact fx_reti rfl rfl rfl
theorem le_83a (S : fS h) (B : tb h 42 b L) (hb : tz_r b) (hL : L ≤ 1600) (w1 : h.2.2.2 41 1 = iv L) (v6 : h.2.2.2 41 6 = iv e) (O : am_isO h q 4 = true) (hq : 130 ≤ q) (t1 : tz_t b L e s1 e1 k1 v1) (q1 : k1 ≠ 2) : am_ev (d + 3) 83 0 (am_ent [.ref q, .ref 41] 2) [] h (some (iv 0), (am_put (am_put (am_put (am_put (am_put h 41 5 (iv ((s1 : Int)))) 41 6 (iv ((e1 : Int)))) 41 2 (iv (k1))) 41 3 (iv 1)) 41 4 (iv ((s1 : Int))))) := by
  show am_ev (d + 3) 83 0 [.ref q, .ref 41] [] h _
  refine am_ev.step (pc' := 1) rfl rfl ?_
  refine am_ev.step (pc' := 2) rfl rfl ?_
  refine am_ev.step (pc' := 3) rfl rfl ?_
  refine ax_call (z := 28) (p' := 6) (as := [_, _, _]) rfl (Or.inr (Or.inl ⟨_, rfl⟩)) rfl rfl rfl rfl rfl rfl (S.ob rfl) rfl (tk_28a (lo := 0) (hi := 2) (by omega) S B hb hL w1 v6 t1 q1) rfl ?_
  refine fx_z_ne_F (pF := 9) rfl (by omega) rfl (by omega) ?_
  refine am_ev.step (pc' := 10) rfl rfl ?_
  exact fx_reti rfl rfl rfl
theorem le_83b (S : fS h) (B : tb h 42 b L) (hb : tz_r b) (hL : L ≤ 1600) (w1 : h.2.2.2 41 1 = iv L) (v6 : h.2.2.2 41 6 = iv e) (O : am_isO h q 4 = true) (hq : 130 ≤ q) (t1 : tz_t b L e s1 e1 k1 v1) (q1 : k1 = 2 ∧ ¬ (0 ≤ v1 ∧ v1 ≤ 2)) : am_ev (d + 3) 83 0 (am_ent [.ref q, .ref 41] 2) [] h (some (iv 0), (am_put (am_put (am_put (am_put (am_put h 41 5 (iv ((s1 : Int)))) 41 6 (iv ((e1 : Int)))) 41 2 (iv (k1))) 41 3 (iv 2)) 41 4 (iv ((s1 : Int))))) := by
  show am_ev (d + 3) 83 0 [.ref q, .ref 41] [] h _
  refine am_ev.step (pc' := 1) rfl rfl ?_
  refine am_ev.step (pc' := 2) rfl rfl ?_
  refine am_ev.step (pc' := 3) rfl rfl ?_
  refine ax_call (z := 28) (p' := 6) (as := [_, _, _]) rfl (Or.inr (Or.inl ⟨_, rfl⟩)) rfl rfl rfl rfl rfl rfl (S.ob rfl) rfl (tk_28b (lo := 0) (hi := 2) (by omega) S B hb hL w1 v6 t1 q1) rfl ?_
  refine fx_z_ne_F (pF := 9) rfl (by omega) rfl (by omega) ?_
  refine am_ev.step (pc' := 10) rfl rfl ?_
  exact fx_reti rfl rfl rfl
theorem le_83d (S : fS h) (B : tb h 42 b L) (hb : tz_r b) (hL : L ≤ 1600) (w1 : h.2.2.2 41 1 = iv L) (v6 : h.2.2.2 41 6 = iv e) (O : am_isO h q 4 = true) (hq : 130 ≤ q) (t1 : tz_t b L e s1 e1 k1 v1) (q1 : k1 = 2 ∧ 0 ≤ v1 ∧ v1 ≤ 2) (t2 : tz_t b L e1 s2 e2 k2 v2) (q2 : k2 ≠ 59) : am_ev (d + 3) 83 0 (am_ent [.ref q, .ref 41] 2) [] h (some (iv 0), (am_put (am_put (am_put (am_put (am_put (am_put (am_put (am_put (am_put h 41 5 (iv ((s1 : Int)))) 41 6 (iv ((e1 : Int)))) 41 2 (iv (k1))) q 7 (iv (v1))) 41 5 (iv ((s2 : Int)))) 41 6 (iv ((e2 : Int)))) 41 2 (iv (k2))) 41 3 (iv 1)) 41 4 (iv ((s2 : Int))))) := by
  show am_ev (d + 3) 83 0 [.ref q, .ref 41] [] h _
  refine am_ev.step (pc' := 1) rfl rfl ?_
  refine am_ev.step (pc' := 2) rfl rfl ?_
  refine am_ev.step (pc' := 3) rfl rfl ?_
  refine ax_call (z := 28) (p' := 6) (as := [_, _, _]) rfl (Or.inr (Or.inl ⟨_, rfl⟩)) rfl rfl rfl rfl rfl rfl (S.ob rfl) rfl (tk_28c (lo := 0) (hi := 2) (by omega) S B hb hL w1 v6 t1 q1) rfl ?_
  refine fx_z_ne_T (pT := 11) rfl (by omega) rfl (by omega) ?_
  refine am_ev.step (pc' := 12) rfl rfl ?_
  refine am_ev.step (pc' := 13) rfl rfl ?_
  refine ax_call (z := 30) (p' := 16) (as := [_]) rfl (Or.inr (Or.inl ⟨_, rfl⟩)) rfl rfl rfl rfl rfl rfl (fO (fO (fO (S.ob rfl)))) rfl (tk_30w (((S.po rfl rfl).po rfl rfl).po rfl rfl) (((B.put (by decide)).put (by decide)).put (by decide)) hb hL (ax_put_o (Or.inr (by decide)) (ax_put_o (Or.inr (by decide)) (ax_put_o (Or.inr (by decide)) w1))) (ax_put_o (Or.inr (by decide)) (ax_put_o (Or.inr (by decide)) (ax_put_s _ _ _))) (ax_put_o (Or.inr (by decide)) (ax_put_s _ _ _)) t1) rfl ?_
  refine ax_pf (p' := 19) rfl rfl (fO (fO (fO O))) rfl ?_
  refine am_ev.step (pc' := 20) rfl rfl ?_
  refine ax_call (z := 32) (p' := 23) (as := [_]) rfl (Or.inr (Or.inl ⟨_, rfl⟩)) rfl rfl rfl rfl rfl rfl (fO (fO (fO (fO (S.ob rfl))))) rfl (tk_32a ((((S.po rfl rfl).po rfl rfl).po rfl rfl).pd (by omega)) ((((B.put (by decide)).put (by decide)).put (by decide)).put (by omega)) hb hL (ax_put_o (Or.inl (by omega)) (ax_put_o (Or.inr (by decide)) (ax_put_o (Or.inr (by decide)) (ax_put_o (Or.inr (by decide)) w1)))) (ax_put_o (Or.inl (by omega)) (ax_put_o (Or.inr (by decide)) (ax_put_s _ _ _))) t2 q2) rfl ?_
  exact fx_reti rfl rfl rfl
theorem le_83e (S : fS h) (B : tb h 42 b L) (hb : tz_r b) (hL : L ≤ 1600) (w1 : h.2.2.2 41 1 = iv L) (v6 : h.2.2.2 41 6 = iv e) (O : am_isO h q 4 = true) (hq : 130 ≤ q) (t1 : tz_t b L e s1 e1 k1 v1) (q1 : k1 = 2 ∧ 0 ≤ v1 ∧ v1 ≤ 2) (t2 : tz_t b L e1 s2 e2 k2 v2) (q2 : k2 = 59) : am_ev (d + 3) 83 0 (am_ent [.ref q, .ref 41] 2) [] h (some (iv 1), (am_put (am_put (am_put (am_put (am_put (am_put (am_put h 41 5 (iv ((s1 : Int)))) 41 6 (iv ((e1 : Int)))) 41 2 (iv (k1))) q 7 (iv (v1))) 41 5 (iv ((s2 : Int)))) 41 6 (iv ((e2 : Int)))) 41 2 (iv (k2)))) := by
  show am_ev (d + 3) 83 0 [.ref q, .ref 41] [] h _
  refine am_ev.step (pc' := 1) rfl rfl ?_
  refine am_ev.step (pc' := 2) rfl rfl ?_
  refine am_ev.step (pc' := 3) rfl rfl ?_
  refine ax_call (z := 28) (p' := 6) (as := [_, _, _]) rfl (Or.inr (Or.inl ⟨_, rfl⟩)) rfl rfl rfl rfl rfl rfl (S.ob rfl) rfl (tk_28c (lo := 0) (hi := 2) (by omega) S B hb hL w1 v6 t1 q1) rfl ?_
  refine fx_z_ne_T (pT := 11) rfl (by omega) rfl (by omega) ?_
  refine am_ev.step (pc' := 12) rfl rfl ?_
  refine am_ev.step (pc' := 13) rfl rfl ?_
  refine ax_call (z := 30) (p' := 16) (as := [_]) rfl (Or.inr (Or.inl ⟨_, rfl⟩)) rfl rfl rfl rfl rfl rfl (fO (fO (fO (S.ob rfl)))) rfl (tk_30w (((S.po rfl rfl).po rfl rfl).po rfl rfl) (((B.put (by decide)).put (by decide)).put (by decide)) hb hL (ax_put_o (Or.inr (by decide)) (ax_put_o (Or.inr (by decide)) (ax_put_o (Or.inr (by decide)) w1))) (ax_put_o (Or.inr (by decide)) (ax_put_o (Or.inr (by decide)) (ax_put_s _ _ _))) (ax_put_o (Or.inr (by decide)) (ax_put_s _ _ _)) t1) rfl ?_
  refine ax_pf (p' := 19) rfl rfl (fO (fO (fO O))) rfl ?_
  refine am_ev.step (pc' := 20) rfl rfl ?_
  refine ax_call (z := 32) (p' := 23) (as := [_]) rfl (Or.inr (Or.inl ⟨_, rfl⟩)) rfl rfl rfl rfl rfl rfl (fO (fO (fO (fO (S.ob rfl))))) rfl (tk_32b ((((S.po rfl rfl).po rfl rfl).po rfl rfl).pd (by omega)) ((((B.put (by decide)).put (by decide)).put (by decide)).put (by omega)) hb hL (ax_put_o (Or.inl (by omega)) (ax_put_o (Or.inr (by decide)) (ax_put_o (Or.inr (by decide)) (ax_put_o (Or.inr (by decide)) w1)))) (ax_put_o (Or.inl (by omega)) (ax_put_o (Or.inr (by decide)) (ax_put_s _ _ _))) t2 q2) rfl ?_
  exact fx_reti rfl rfl rfl
theorem le_82a (S : fS h) (B : tb h 42 b L) (hb : tz_r b) (hL : L ≤ 1600) (w1 : h.2.2.2 41 1 = iv L) (v6 : h.2.2.2 41 6 = iv e) (O : am_isO h q 4 = true) (hq : 130 ≤ q) (t1 : tz_t b L e s1 e1 k1 v1) (q1 : k1 ≠ 2) : am_ev (d + 6) 82 0 (am_ent [.ref q, .ref 41] 2) [] h (some (iv 0), (am_put (am_put (am_put (am_put (am_put h 41 5 (iv ((s1 : Int)))) 41 6 (iv ((e1 : Int)))) 41 2 (iv (k1))) 41 3 (iv 1)) 41 4 (iv ((s1 : Int))))) := by
  show am_ev (d + 6) 82 0 [.ref q, .ref 41] [] h _
  refine am_ev.step (pc' := 1) rfl rfl ?_
  refine am_ev.step (pc' := 2) rfl rfl ?_
  refine fx_sip (p' := 5) rfl rfl rfl ?_
  refine ax_call (z := 28) (p' := 8) (as := [_, _, _]) rfl (Or.inr (Or.inl ⟨_, rfl⟩)) rfl rfl rfl rfl rfl rfl (S.ob rfl) rfl (tk_28a (lo := 0) (hi := 9999) (by omega) S B hb hL w1 v6 t1 q1) rfl ?_
  refine fx_z_ne_F (pF := 11) rfl (by omega) rfl (by omega) ?_
  refine am_ev.step (pc' := 12) rfl rfl ?_
  exact fx_reti rfl rfl rfl
theorem le_82b (S : fS h) (B : tb h 42 b L) (hb : tz_r b) (hL : L ≤ 1600) (w1 : h.2.2.2 41 1 = iv L) (v6 : h.2.2.2 41 6 = iv e) (O : am_isO h q 4 = true) (hq : 130 ≤ q) (t1 : tz_t b L e s1 e1 k1 v1) (q1 : k1 = 2 ∧ ¬ (0 ≤ v1 ∧ v1 ≤ 9999)) : am_ev (d + 6) 82 0 (am_ent [.ref q, .ref 41] 2) [] h (some (iv 0), (am_put (am_put (am_put (am_put (am_put h 41 5 (iv ((s1 : Int)))) 41 6 (iv ((e1 : Int)))) 41 2 (iv (k1))) 41 3 (iv 2)) 41 4 (iv ((s1 : Int))))) := by
  show am_ev (d + 6) 82 0 [.ref q, .ref 41] [] h _
  refine am_ev.step (pc' := 1) rfl rfl ?_
  refine am_ev.step (pc' := 2) rfl rfl ?_
  refine fx_sip (p' := 5) rfl rfl rfl ?_
  refine ax_call (z := 28) (p' := 8) (as := [_, _, _]) rfl (Or.inr (Or.inl ⟨_, rfl⟩)) rfl rfl rfl rfl rfl rfl (S.ob rfl) rfl (tk_28b (lo := 0) (hi := 9999) (by omega) S B hb hL w1 v6 t1 q1) rfl ?_
  refine fx_z_ne_F (pF := 11) rfl (by omega) rfl (by omega) ?_
  refine am_ev.step (pc' := 12) rfl rfl ?_
  exact fx_reti rfl rfl rfl
theorem le_82x (S : fS h) (B : tb h 42 b L) (hb : tz_r b) (hL : L ≤ 1600) (w1 : h.2.2.2 41 1 = iv L) (v6 : h.2.2.2 41 6 = iv e) (O : am_isO h q 4 = true) (hq : 130 ≤ q) (t1 : tz_t b L e s1 e1 k1 v1) (q1 : k1 = 2 ∧ 0 ≤ v1 ∧ v1 ≤ 9999) (t2 : tz_t b L e1 s2 e2 k2 v2) (q2 : cl_f b s2 e2 k2 (-1)) : am_ev (d + 6) 82 0 (am_ent [.ref q, .ref 41] 2) [] h (some (iv 0), (am_put (am_put (am_put (am_put (am_put (am_put (am_put (am_put (am_put h 41 5 (iv ((s1 : Int)))) 41 6 (iv ((e1 : Int)))) 41 2 (iv (k1))) q 4 (iv (v1))) 41 5 (iv ((s2 : Int)))) 41 6 (iv ((e2 : Int)))) 41 2 (iv (k2))) 41 3 (iv 1)) 41 4 (iv ((s2 : Int))))) := by
  show am_ev (d + 6) 82 0 [.ref q, .ref 41] [] h _
  refine am_ev.step (pc' := 1) rfl rfl ?_
  refine am_ev.step (pc' := 2) rfl rfl ?_
  refine fx_sip (p' := 5) rfl rfl rfl ?_
  refine ax_call (z := 28) (p' := 8) (as := [_, _, _]) rfl (Or.inr (Or.inl ⟨_, rfl⟩)) rfl rfl rfl rfl rfl rfl (S.ob rfl) rfl (tk_28c (lo := 0) (hi := 9999) (by omega) S B hb hL w1 v6 t1 q1) rfl ?_
  refine fx_z_ne_T (pT := 13) rfl (by omega) rfl (by omega) ?_
  refine am_ev.step (pc' := 14) rfl rfl ?_
  refine am_ev.step (pc' := 15) rfl rfl ?_
  refine ax_call (z := 30) (p' := 18) (as := [_]) rfl (Or.inr (Or.inl ⟨_, rfl⟩)) rfl rfl rfl rfl rfl rfl (fO (fO (fO (S.ob rfl)))) rfl (tk_30w (((S.po rfl rfl).po rfl rfl).po rfl rfl) (((B.put (by decide)).put (by decide)).put (by decide)) hb hL (ax_put_o (Or.inr (by decide)) (ax_put_o (Or.inr (by decide)) (ax_put_o (Or.inr (by decide)) w1))) (ax_put_o (Or.inr (by decide)) (ax_put_o (Or.inr (by decide)) (ax_put_s _ _ _))) (ax_put_o (Or.inr (by decide)) (ax_put_s _ _ _)) t1) rfl ?_
  refine ax_pf (p' := 21) rfl rfl (fO (fO (fO O))) rfl ?_
  refine am_ev.step (pc' := 22) rfl rfl ?_
  refine ax_call (z := 21) (p' := 25) (as := [_]) rfl (Or.inr (Or.inl ⟨_, rfl⟩)) rfl rfl rfl rfl rfl rfl (fO (fO (fO (fO (S.ob rfl))))) rfl (tk_21w ((((S.po rfl rfl).po rfl rfl).po rfl rfl).pd (by omega)) ((((B.put (by decide)).put (by decide)).put (by decide)).put (by omega)) hb hL (ax_put_o (Or.inl (by omega)) (ax_put_o (Or.inr (by decide)) (ax_put_o (Or.inr (by decide)) (ax_put_o (Or.inr (by decide)) w1)))) (ax_put_o (Or.inl (by omega)) (ax_put_o (Or.inr (by decide)) (ax_put_s _ _ _))) t2) rfl ?_
  refine am_ev.step (pc' := 26) rfl rfl ?_
  refine am_ev.ldc rfl rfl rfl rfl ?_
  refine ax_call (z := 26) (p' := 31) (as := [_, _]) rfl (Or.inr (Or.inl ⟨_, rfl⟩)) rfl rfl rfl rfl rfl rfl (fO (fO (fO (fO (fO (fO (fO (S.ob rfl)))))))) rfl ((tk_26 (i := 8) (k := k2) (s := s2) (e := e2) (by decide) (((((((S.po rfl rfl).po rfl rfl).po rfl rfl).pd (by omega)).po rfl rfl).po rfl rfl).po rfl rfl) (((((((B.put (by decide)).put (by decide)).put (by decide)).put (by omega)).put (by decide)).put (by decide)).put (by decide)) hb hL (ax_put_o (Or.inr (by decide)) (ax_put_o (Or.inr (by decide)) (ax_put_o (Or.inr (by decide)) (ax_put_o (Or.inl (by omega)) (ax_put_o (Or.inr (by decide)) (ax_put_o (Or.inr (by decide)) (ax_put_o (Or.inr (by decide)) w1))))))) (ax_put_s _ _ _) (ax_put_o (Or.inr (by decide)) (ax_put_o (Or.inr (by decide)) (ax_put_s _ _ _))) (ax_put_o (Or.inr (by decide)) (ax_put_s _ _ _)) ⟨(t2.f hb).2.1, (t2.f hb).2.2.1⟩ ⟨(t2.f hb).2.2.2.1, Int.le_trans (t2.f hb).2.2.2.2.1 (by decide)⟩).2 ((cl_f_w q2 (n := 0) (by decide)).2 (by decide))) rfl ?_
  refine fx_z_eq_T (pT := 42) rfl (by omega) rfl (by omega) ?_
  refine am_ev.step (pc' := 43) rfl rfl ?_
  refine am_ev.ldc rfl rfl rfl rfl ?_
  refine ax_call (z := 26) (p' := 48) (as := [_, _]) rfl (Or.inr (Or.inl ⟨_, rfl⟩)) rfl rfl rfl rfl rfl rfl (fO (fO (fO (fO (fO (fO (fO (S.ob rfl)))))))) rfl ((tk_26 (i := 10) (k := k2) (s := s2) (e := e2) (by decide) (((((((S.po rfl rfl).po rfl rfl).po rfl rfl).pd (by omega)).po rfl rfl).po rfl rfl).po rfl rfl) (((((((B.put (by decide)).put (by decide)).put (by decide)).put (by omega)).put (by decide)).put (by decide)).put (by decide)) hb hL (ax_put_o (Or.inr (by decide)) (ax_put_o (Or.inr (by decide)) (ax_put_o (Or.inr (by decide)) (ax_put_o (Or.inl (by omega)) (ax_put_o (Or.inr (by decide)) (ax_put_o (Or.inr (by decide)) (ax_put_o (Or.inr (by decide)) w1))))))) (ax_put_s _ _ _) (ax_put_o (Or.inr (by decide)) (ax_put_o (Or.inr (by decide)) (ax_put_s _ _ _))) (ax_put_o (Or.inr (by decide)) (ax_put_s _ _ _)) ⟨(t2.f hb).2.1, (t2.f hb).2.2.1⟩ ⟨(t2.f hb).2.2.2.1, Int.le_trans (t2.f hb).2.2.2.2.1 (by decide)⟩).2 ((cl_f_w q2 (n := 1) (by decide)).2 (by decide))) rfl ?_
  refine fx_z_eq_T (pT := 59) rfl (by omega) rfl (by omega) ?_
  refine am_ev.step (pc' := 60) rfl rfl ?_
  refine am_ev.ldc rfl rfl rfl rfl ?_
  refine ax_call (z := 26) (p' := 65) (as := [_, _]) rfl (Or.inr (Or.inl ⟨_, rfl⟩)) rfl rfl rfl rfl rfl rfl (fO (fO (fO (fO (fO (fO (fO (S.ob rfl)))))))) rfl ((tk_26 (i := 0) (k := k2) (s := s2) (e := e2) (by decide) (((((((S.po rfl rfl).po rfl rfl).po rfl rfl).pd (by omega)).po rfl rfl).po rfl rfl).po rfl rfl) (((((((B.put (by decide)).put (by decide)).put (by decide)).put (by omega)).put (by decide)).put (by decide)).put (by decide)) hb hL (ax_put_o (Or.inr (by decide)) (ax_put_o (Or.inr (by decide)) (ax_put_o (Or.inr (by decide)) (ax_put_o (Or.inl (by omega)) (ax_put_o (Or.inr (by decide)) (ax_put_o (Or.inr (by decide)) (ax_put_o (Or.inr (by decide)) w1))))))) (ax_put_s _ _ _) (ax_put_o (Or.inr (by decide)) (ax_put_o (Or.inr (by decide)) (ax_put_s _ _ _))) (ax_put_o (Or.inr (by decide)) (ax_put_s _ _ _)) ⟨(t2.f hb).2.1, (t2.f hb).2.2.1⟩ ⟨(t2.f hb).2.2.2.1, Int.le_trans (t2.f hb).2.2.2.2.1 (by decide)⟩).2 ((cl_f_w q2 (n := 2) (by decide)).2 (by decide))) rfl ?_
  refine fx_z_eq_T (pT := 76) rfl (by omega) rfl (by omega) ?_
  refine am_ev.step (pc' := 77) rfl rfl ?_
  refine am_ev.step (pc' := 78) rfl rfl ?_
  refine ax_call (z := 29) (p' := 81) (as := [_, _]) rfl (Or.inr (Or.inl ⟨_, rfl⟩)) rfl rfl rfl rfl rfl rfl (fO (fO (fO (fO (fO (fO (fO (S.ob rfl)))))))) rfl (tk_29 (s := s2) (((((((S.po rfl rfl).po rfl rfl).po rfl rfl).pd (by omega)).po rfl rfl).po rfl rfl).po rfl rfl) (ax_put_o (Or.inr (by decide)) (ax_put_o (Or.inr (by decide)) (ax_put_s _ _ _)))) rfl ?_
  exact fx_reti rfl rfl rfl
theorem le_82d0 (S : fS h) (B : tb h 42 b L) (hb : tz_r b) (hL : L ≤ 1600) (w1 : h.2.2.2 41 1 = iv L) (v6 : h.2.2.2 41 6 = iv e) (O : am_isO h q 4 = true) (hq : 130 ≤ q) (t1 : tz_t b L e s1 e1 k1 v1) (q1 : k1 = 2 ∧ 0 ≤ v1 ∧ v1 ≤ 9999) (t2 : tz_t b L e1 s2 e2 k2 v2) (q2 : cl_f b s2 e2 k2 ((0 : Nat) : Int)) (t3 : tz_t b L e2 s3 e3 k3 v3) (q3 : k3 ≠ 59) : am_ev (d + 6) 82 0 (am_ent [.ref q, .ref 41] 2) [] h (some (iv 0), (am_put (am_put (am_put (am_put (am_put (am_put (am_put (am_put (am_put (am_put (am_put (am_put (am_put h 41 5 (iv ((s1 : Int)))) 41 6 (iv ((e1 : Int)))) 41 2 (iv (k1))) q 4 (iv (v1))) 41 5 (iv ((s2 : Int)))) 41 6 (iv ((e2 : Int)))) 41 2 (iv (k2))) q 5 (iv 0)) 41 5 (iv ((s3 : Int)))) 41 6 (iv ((e3 : Int)))) 41 2 (iv (k3))) 41 3 (iv 1)) 41 4 (iv ((s3 : Int))))) := by
  show am_ev (d + 6) 82 0 [.ref q, .ref 41] [] h _
  refine am_ev.step (pc' := 1) rfl rfl ?_
  refine am_ev.step (pc' := 2) rfl rfl ?_
  refine fx_sip (p' := 5) rfl rfl rfl ?_
  refine ax_call (z := 28) (p' := 8) (as := [_, _, _]) rfl (Or.inr (Or.inl ⟨_, rfl⟩)) rfl rfl rfl rfl rfl rfl (S.ob rfl) rfl (tk_28c (lo := 0) (hi := 9999) (by omega) S B hb hL w1 v6 t1 q1) rfl ?_
  refine fx_z_ne_T (pT := 13) rfl (by omega) rfl (by omega) ?_
  refine am_ev.step (pc' := 14) rfl rfl ?_
  refine am_ev.step (pc' := 15) rfl rfl ?_
  refine ax_call (z := 30) (p' := 18) (as := [_]) rfl (Or.inr (Or.inl ⟨_, rfl⟩)) rfl rfl rfl rfl rfl rfl (fO (fO (fO (S.ob rfl)))) rfl (tk_30w (((S.po rfl rfl).po rfl rfl).po rfl rfl) (((B.put (by decide)).put (by decide)).put (by decide)) hb hL (ax_put_o (Or.inr (by decide)) (ax_put_o (Or.inr (by decide)) (ax_put_o (Or.inr (by decide)) w1))) (ax_put_o (Or.inr (by decide)) (ax_put_o (Or.inr (by decide)) (ax_put_s _ _ _))) (ax_put_o (Or.inr (by decide)) (ax_put_s _ _ _)) t1) rfl ?_
  refine ax_pf (p' := 21) rfl rfl (fO (fO (fO O))) rfl ?_
  refine am_ev.step (pc' := 22) rfl rfl ?_
  refine ax_call (z := 21) (p' := 25) (as := [_]) rfl (Or.inr (Or.inl ⟨_, rfl⟩)) rfl rfl rfl rfl rfl rfl (fO (fO (fO (fO (S.ob rfl))))) rfl (tk_21w ((((S.po rfl rfl).po rfl rfl).po rfl rfl).pd (by omega)) ((((B.put (by decide)).put (by decide)).put (by decide)).put (by omega)) hb hL (ax_put_o (Or.inl (by omega)) (ax_put_o (Or.inr (by decide)) (ax_put_o (Or.inr (by decide)) (ax_put_o (Or.inr (by decide)) w1)))) (ax_put_o (Or.inl (by omega)) (ax_put_o (Or.inr (by decide)) (ax_put_s _ _ _))) t2) rfl ?_
  refine am_ev.step (pc' := 26) rfl rfl ?_
  refine am_ev.ldc rfl rfl rfl rfl ?_
  refine ax_call (z := 26) (p' := 31) (as := [_, _]) rfl (Or.inr (Or.inl ⟨_, rfl⟩)) rfl rfl rfl rfl rfl rfl (fO (fO (fO (fO (fO (fO (fO (S.ob rfl)))))))) rfl ((tk_26 (i := 8) (k := k2) (s := s2) (e := e2) (by decide) (((((((S.po rfl rfl).po rfl rfl).po rfl rfl).pd (by omega)).po rfl rfl).po rfl rfl).po rfl rfl) (((((((B.put (by decide)).put (by decide)).put (by decide)).put (by omega)).put (by decide)).put (by decide)).put (by decide)) hb hL (ax_put_o (Or.inr (by decide)) (ax_put_o (Or.inr (by decide)) (ax_put_o (Or.inr (by decide)) (ax_put_o (Or.inl (by omega)) (ax_put_o (Or.inr (by decide)) (ax_put_o (Or.inr (by decide)) (ax_put_o (Or.inr (by decide)) w1))))))) (ax_put_s _ _ _) (ax_put_o (Or.inr (by decide)) (ax_put_o (Or.inr (by decide)) (ax_put_s _ _ _))) (ax_put_o (Or.inr (by decide)) (ax_put_s _ _ _)) ⟨(t2.f hb).2.1, (t2.f hb).2.2.1⟩ ⟨(t2.f hb).2.2.2.1, Int.le_trans (t2.f hb).2.2.2.2.1 (by decide)⟩).1 ((cl_f_w q2 (n := 0) (by decide)).1 rfl)) rfl ?_
  refine fx_z_eq_F (pF := 34) rfl (by omega) rfl (by omega) ?_
  refine am_ev.step (pc' := 35) rfl rfl ?_
  refine am_ev.step (pc' := 36) rfl rfl ?_
  refine ax_pf (p' := 39) rfl rfl (fO (fO (fO (fO (fO (fO (fO O))))))) rfl ?_
  refine am_ev.step (pc' := 82) rfl rfl ?_
  refine am_ev.step (pc' := 83) rfl rfl ?_
  refine ax_call (z := 32) (p' := 86) (as := [_]) rfl (Or.inr (Or.inl ⟨_, rfl⟩)) rfl rfl rfl rfl rfl rfl (fO (fO (fO (fO (fO (fO (fO (fO (S.ob rfl))))))))) rfl (tk_32a ((((((((S.po rfl rfl).po rfl rfl).po rfl rfl).pd (by omega)).po rfl rfl).po rfl rfl).po rfl rfl).pd (by omega)) ((((((((B.put (by decide)).put (by decide)).put (by decide)).put (by omega)).put (by decide)).put (by decide)).put (by decide)).put (by omega)) hb hL (ax_put_o (Or.inl (by omega)) (ax_put_o (Or.inr (by decide)) (ax_put_o (Or.inr (by decide)) (ax_put_o (Or.inr (by decide)) (ax_put_o (Or.inl (by omega)) (ax_put_o (Or.inr (by decide)) (ax_put_o (Or.inr (by decide)) (ax_put_o (Or.inr (by decide)) w1)))))))) (ax_put_o (Or.inl (by omega)) (ax_put_o (Or.inr (by decide)) (ax_put_s _ _ _))) t3 q3) rfl ?_
  exact fx_reti rfl rfl rfl
theorem le_82e0 (S : fS h) (B : tb h 42 b L) (hb : tz_r b) (hL : L ≤ 1600) (w1 : h.2.2.2 41 1 = iv L) (v6 : h.2.2.2 41 6 = iv e) (O : am_isO h q 4 = true) (hq : 130 ≤ q) (t1 : tz_t b L e s1 e1 k1 v1) (q1 : k1 = 2 ∧ 0 ≤ v1 ∧ v1 ≤ 9999) (t2 : tz_t b L e1 s2 e2 k2 v2) (q2 : cl_f b s2 e2 k2 ((0 : Nat) : Int)) (t3 : tz_t b L e2 s3 e3 k3 v3) (q3 : k3 = 59) : am_ev (d + 6) 82 0 (am_ent [.ref q, .ref 41] 2) [] h (some (iv 1), (am_put (am_put (am_put (am_put (am_put (am_put (am_put (am_put (am_put (am_put (am_put h 41 5 (iv ((s1 : Int)))) 41 6 (iv ((e1 : Int)))) 41 2 (iv (k1))) q 4 (iv (v1))) 41 5 (iv ((s2 : Int)))) 41 6 (iv ((e2 : Int)))) 41 2 (iv (k2))) q 5 (iv 0)) 41 5 (iv ((s3 : Int)))) 41 6 (iv ((e3 : Int)))) 41 2 (iv (k3)))) := by
  show am_ev (d + 6) 82 0 [.ref q, .ref 41] [] h _
  refine am_ev.step (pc' := 1) rfl rfl ?_
  refine am_ev.step (pc' := 2) rfl rfl ?_
  refine fx_sip (p' := 5) rfl rfl rfl ?_
  refine ax_call (z := 28) (p' := 8) (as := [_, _, _]) rfl (Or.inr (Or.inl ⟨_, rfl⟩)) rfl rfl rfl rfl rfl rfl (S.ob rfl) rfl (tk_28c (lo := 0) (hi := 9999) (by omega) S B hb hL w1 v6 t1 q1) rfl ?_
  refine fx_z_ne_T (pT := 13) rfl (by omega) rfl (by omega) ?_
  refine am_ev.step (pc' := 14) rfl rfl ?_
  refine am_ev.step (pc' := 15) rfl rfl ?_
  refine ax_call (z := 30) (p' := 18) (as := [_]) rfl (Or.inr (Or.inl ⟨_, rfl⟩)) rfl rfl rfl rfl rfl rfl (fO (fO (fO (S.ob rfl)))) rfl (tk_30w (((S.po rfl rfl).po rfl rfl).po rfl rfl) (((B.put (by decide)).put (by decide)).put (by decide)) hb hL (ax_put_o (Or.inr (by decide)) (ax_put_o (Or.inr (by decide)) (ax_put_o (Or.inr (by decide)) w1))) (ax_put_o (Or.inr (by decide)) (ax_put_o (Or.inr (by decide)) (ax_put_s _ _ _))) (ax_put_o (Or.inr (by decide)) (ax_put_s _ _ _)) t1) rfl ?_
  refine ax_pf (p' := 21) rfl rfl (fO (fO (fO O))) rfl ?_
  refine am_ev.step (pc' := 22) rfl rfl ?_
  refine ax_call (z := 21) (p' := 25) (as := [_]) rfl (Or.inr (Or.inl ⟨_, rfl⟩)) rfl rfl rfl rfl rfl rfl (fO (fO (fO (fO (S.ob rfl))))) rfl (tk_21w ((((S.po rfl rfl).po rfl rfl).po rfl rfl).pd (by omega)) ((((B.put (by decide)).put (by decide)).put (by decide)).put (by omega)) hb hL (ax_put_o (Or.inl (by omega)) (ax_put_o (Or.inr (by decide)) (ax_put_o (Or.inr (by decide)) (ax_put_o (Or.inr (by decide)) w1)))) (ax_put_o (Or.inl (by omega)) (ax_put_o (Or.inr (by decide)) (ax_put_s _ _ _))) t2) rfl ?_
  refine am_ev.step (pc' := 26) rfl rfl ?_
  refine am_ev.ldc rfl rfl rfl rfl ?_
  refine ax_call (z := 26) (p' := 31) (as := [_, _]) rfl (Or.inr (Or.inl ⟨_, rfl⟩)) rfl rfl rfl rfl rfl rfl (fO (fO (fO (fO (fO (fO (fO (S.ob rfl)))))))) rfl ((tk_26 (i := 8) (k := k2) (s := s2) (e := e2) (by decide) (((((((S.po rfl rfl).po rfl rfl).po rfl rfl).pd (by omega)).po rfl rfl).po rfl rfl).po rfl rfl) (((((((B.put (by decide)).put (by decide)).put (by decide)).put (by omega)).put (by decide)).put (by decide)).put (by decide)) hb hL (ax_put_o (Or.inr (by decide)) (ax_put_o (Or.inr (by decide)) (ax_put_o (Or.inr (by decide)) (ax_put_o (Or.inl (by omega)) (ax_put_o (Or.inr (by decide)) (ax_put_o (Or.inr (by decide)) (ax_put_o (Or.inr (by decide)) w1))))))) (ax_put_s _ _ _) (ax_put_o (Or.inr (by decide)) (ax_put_o (Or.inr (by decide)) (ax_put_s _ _ _))) (ax_put_o (Or.inr (by decide)) (ax_put_s _ _ _)) ⟨(t2.f hb).2.1, (t2.f hb).2.2.1⟩ ⟨(t2.f hb).2.2.2.1, Int.le_trans (t2.f hb).2.2.2.2.1 (by decide)⟩).1 ((cl_f_w q2 (n := 0) (by decide)).1 rfl)) rfl ?_
  refine fx_z_eq_F (pF := 34) rfl (by omega) rfl (by omega) ?_
  refine am_ev.step (pc' := 35) rfl rfl ?_
  refine am_ev.step (pc' := 36) rfl rfl ?_
  refine ax_pf (p' := 39) rfl rfl (fO (fO (fO (fO (fO (fO (fO O))))))) rfl ?_
  refine am_ev.step (pc' := 82) rfl rfl ?_
  refine am_ev.step (pc' := 83) rfl rfl ?_
  refine ax_call (z := 32) (p' := 86) (as := [_]) rfl (Or.inr (Or.inl ⟨_, rfl⟩)) rfl rfl rfl rfl rfl rfl (fO (fO (fO (fO (fO (fO (fO (fO (S.ob rfl))))))))) rfl (tk_32b ((((((((S.po rfl rfl).po rfl rfl).po rfl rfl).pd (by omega)).po rfl rfl).po rfl rfl).po rfl rfl).pd (by omega)) ((((((((B.put (by decide)).put (by decide)).put (by decide)).put (by omega)).put (by decide)).put (by decide)).put (by decide)).put (by omega)) hb hL (ax_put_o (Or.inl (by omega)) (ax_put_o (Or.inr (by decide)) (ax_put_o (Or.inr (by decide)) (ax_put_o (Or.inr (by decide)) (ax_put_o (Or.inl (by omega)) (ax_put_o (Or.inr (by decide)) (ax_put_o (Or.inr (by decide)) (ax_put_o (Or.inr (by decide)) w1)))))))) (ax_put_o (Or.inl (by omega)) (ax_put_o (Or.inr (by decide)) (ax_put_s _ _ _))) t3 q3) rfl ?_
  exact fx_reti rfl rfl rfl
theorem le_82d1 (S : fS h) (B : tb h 42 b L) (hb : tz_r b) (hL : L ≤ 1600) (w1 : h.2.2.2 41 1 = iv L) (v6 : h.2.2.2 41 6 = iv e) (O : am_isO h q 4 = true) (hq : 130 ≤ q) (t1 : tz_t b L e s1 e1 k1 v1) (q1 : k1 = 2 ∧ 0 ≤ v1 ∧ v1 ≤ 9999) (t2 : tz_t b L e1 s2 e2 k2 v2) (q2 : cl_f b s2 e2 k2 ((1 : Nat) : Int)) (t3 : tz_t b L e2 s3 e3 k3 v3) (q3 : k3 ≠ 59) : am_ev (d + 6) 82 0 (am_ent [.ref q, .ref 41] 2) [] h (some (iv 0), (am_put (am_put (am_put (am_put (am_put (am_put (am_put (am_put (am_put (am_put (am_put (am_put (am_put h 41 5 (iv ((s1 : Int)))) 41 6 (iv ((e1 : Int)))) 41 2 (iv (k1))) q 4 (iv (v1))) 41 5 (iv ((s2 : Int)))) 41 6 (iv ((e2 : Int)))) 41 2 (iv (k2))) q 5 (iv 1)) 41 5 (iv ((s3 : Int)))) 41 6 (iv ((e3 : Int)))) 41 2 (iv (k3))) 41 3 (iv 1)) 41 4 (iv ((s3 : Int))))) := by
  show am_ev (d + 6) 82 0 [.ref q, .ref 41] [] h _
  refine am_ev.step (pc' := 1) rfl rfl ?_
  refine am_ev.step (pc' := 2) rfl rfl ?_
  refine fx_sip (p' := 5) rfl rfl rfl ?_
  refine ax_call (z := 28) (p' := 8) (as := [_, _, _]) rfl (Or.inr (Or.inl ⟨_, rfl⟩)) rfl rfl rfl rfl rfl rfl (S.ob rfl) rfl (tk_28c (lo := 0) (hi := 9999) (by omega) S B hb hL w1 v6 t1 q1) rfl ?_
  refine fx_z_ne_T (pT := 13) rfl (by omega) rfl (by omega) ?_
  refine am_ev.step (pc' := 14) rfl rfl ?_
  refine am_ev.step (pc' := 15) rfl rfl ?_
  refine ax_call (z := 30) (p' := 18) (as := [_]) rfl (Or.inr (Or.inl ⟨_, rfl⟩)) rfl rfl rfl rfl rfl rfl (fO (fO (fO (S.ob rfl)))) rfl (tk_30w (((S.po rfl rfl).po rfl rfl).po rfl rfl) (((B.put (by decide)).put (by decide)).put (by decide)) hb hL (ax_put_o (Or.inr (by decide)) (ax_put_o (Or.inr (by decide)) (ax_put_o (Or.inr (by decide)) w1))) (ax_put_o (Or.inr (by decide)) (ax_put_o (Or.inr (by decide)) (ax_put_s _ _ _))) (ax_put_o (Or.inr (by decide)) (ax_put_s _ _ _)) t1) rfl ?_
  refine ax_pf (p' := 21) rfl rfl (fO (fO (fO O))) rfl ?_
  refine am_ev.step (pc' := 22) rfl rfl ?_
  refine ax_call (z := 21) (p' := 25) (as := [_]) rfl (Or.inr (Or.inl ⟨_, rfl⟩)) rfl rfl rfl rfl rfl rfl (fO (fO (fO (fO (S.ob rfl))))) rfl (tk_21w ((((S.po rfl rfl).po rfl rfl).po rfl rfl).pd (by omega)) ((((B.put (by decide)).put (by decide)).put (by decide)).put (by omega)) hb hL (ax_put_o (Or.inl (by omega)) (ax_put_o (Or.inr (by decide)) (ax_put_o (Or.inr (by decide)) (ax_put_o (Or.inr (by decide)) w1)))) (ax_put_o (Or.inl (by omega)) (ax_put_o (Or.inr (by decide)) (ax_put_s _ _ _))) t2) rfl ?_
  refine am_ev.step (pc' := 26) rfl rfl ?_
  refine am_ev.ldc rfl rfl rfl rfl ?_
  refine ax_call (z := 26) (p' := 31) (as := [_, _]) rfl (Or.inr (Or.inl ⟨_, rfl⟩)) rfl rfl rfl rfl rfl rfl (fO (fO (fO (fO (fO (fO (fO (S.ob rfl)))))))) rfl ((tk_26 (i := 8) (k := k2) (s := s2) (e := e2) (by decide) (((((((S.po rfl rfl).po rfl rfl).po rfl rfl).pd (by omega)).po rfl rfl).po rfl rfl).po rfl rfl) (((((((B.put (by decide)).put (by decide)).put (by decide)).put (by omega)).put (by decide)).put (by decide)).put (by decide)) hb hL (ax_put_o (Or.inr (by decide)) (ax_put_o (Or.inr (by decide)) (ax_put_o (Or.inr (by decide)) (ax_put_o (Or.inl (by omega)) (ax_put_o (Or.inr (by decide)) (ax_put_o (Or.inr (by decide)) (ax_put_o (Or.inr (by decide)) w1))))))) (ax_put_s _ _ _) (ax_put_o (Or.inr (by decide)) (ax_put_o (Or.inr (by decide)) (ax_put_s _ _ _))) (ax_put_o (Or.inr (by decide)) (ax_put_s _ _ _)) ⟨(t2.f hb).2.1, (t2.f hb).2.2.1⟩ ⟨(t2.f hb).2.2.2.1, Int.le_trans (t2.f hb).2.2.2.2.1 (by decide)⟩).2 ((cl_f_w q2 (n := 0) (by decide)).2 (by decide))) rfl ?_
  refine fx_z_eq_T (pT := 42) rfl (by omega) rfl (by omega) ?_
  refine am_ev.step (pc' := 43) rfl rfl ?_
  refine am_ev.ldc rfl rfl rfl rfl ?_
  refine ax_call (z := 26) (p' := 48) (as := [_, _]) rfl (Or.inr (Or.inl ⟨_, rfl⟩)) rfl rfl rfl rfl rfl rfl (fO (fO (fO (fO (fO (fO (fO (S.ob rfl)))))))) rfl ((tk_26 (i := 10) (k := k2) (s := s2) (e := e2) (by decide) (((((((S.po rfl rfl).po rfl rfl).po rfl rfl).pd (by omega)).po rfl rfl).po rfl rfl).po rfl rfl) (((((((B.put (by decide)).put (by decide)).put (by decide)).put (by omega)).put (by decide)).put (by decide)).put (by decide)) hb hL (ax_put_o (Or.inr (by decide)) (ax_put_o (Or.inr (by decide)) (ax_put_o (Or.inr (by decide)) (ax_put_o (Or.inl (by omega)) (ax_put_o (Or.inr (by decide)) (ax_put_o (Or.inr (by decide)) (ax_put_o (Or.inr (by decide)) w1))))))) (ax_put_s _ _ _) (ax_put_o (Or.inr (by decide)) (ax_put_o (Or.inr (by decide)) (ax_put_s _ _ _))) (ax_put_o (Or.inr (by decide)) (ax_put_s _ _ _)) ⟨(t2.f hb).2.1, (t2.f hb).2.2.1⟩ ⟨(t2.f hb).2.2.2.1, Int.le_trans (t2.f hb).2.2.2.2.1 (by decide)⟩).1 ((cl_f_w q2 (n := 1) (by decide)).1 rfl)) rfl ?_
  refine fx_z_eq_F (pF := 51) rfl (by omega) rfl (by omega) ?_
  refine am_ev.step (pc' := 52) rfl rfl ?_
  refine am_ev.step (pc' := 53) rfl rfl ?_
  refine ax_pf (p' := 56) rfl rfl (fO (fO (fO (fO (fO (fO (fO O))))))) rfl ?_
  refine am_ev.step (pc' := 82) rfl rfl ?_
  refine am_ev.step (pc' := 83) rfl rfl ?_
  refine ax_call (z := 32) (p' := 86) (as := [_]) rfl (Or.inr (Or.inl ⟨_, rfl⟩)) rfl rfl rfl rfl rfl rfl (fO (fO (fO (fO (fO (fO (fO (fO (S.ob rfl))))))))) rfl (tk_32a ((((((((S.po rfl rfl).po rfl rfl).po rfl rfl).pd (by omega)).po rfl rfl).po rfl rfl).po rfl rfl).pd (by omega)) ((((((((B.put (by decide)).put (by decide)).put (by decide)).put (by omega)).put (by decide)).put (by decide)).put (by decide)).put (by omega)) hb hL (ax_put_o (Or.inl (by omega)) (ax_put_o (Or.inr (by decide)) (ax_put_o (Or.inr (by decide)) (ax_put_o (Or.inr (by decide)) (ax_put_o (Or.inl (by omega)) (ax_put_o (Or.inr (by decide)) (ax_put_o (Or.inr (by decide)) (ax_put_o (Or.inr (by decide)) w1)))))))) (ax_put_o (Or.inl (by omega)) (ax_put_o (Or.inr (by decide)) (ax_put_s _ _ _))) t3 q3) rfl ?_
  exact fx_reti rfl rfl rfl
theorem le_82e1 (S : fS h) (B : tb h 42 b L) (hb : tz_r b) (hL : L ≤ 1600) (w1 : h.2.2.2 41 1 = iv L) (v6 : h.2.2.2 41 6 = iv e) (O : am_isO h q 4 = true) (hq : 130 ≤ q) (t1 : tz_t b L e s1 e1 k1 v1) (q1 : k1 = 2 ∧ 0 ≤ v1 ∧ v1 ≤ 9999) (t2 : tz_t b L e1 s2 e2 k2 v2) (q2 : cl_f b s2 e2 k2 ((1 : Nat) : Int)) (t3 : tz_t b L e2 s3 e3 k3 v3) (q3 : k3 = 59) : am_ev (d + 6) 82 0 (am_ent [.ref q, .ref 41] 2) [] h (some (iv 1), (am_put (am_put (am_put (am_put (am_put (am_put (am_put (am_put (am_put (am_put (am_put h 41 5 (iv ((s1 : Int)))) 41 6 (iv ((e1 : Int)))) 41 2 (iv (k1))) q 4 (iv (v1))) 41 5 (iv ((s2 : Int)))) 41 6 (iv ((e2 : Int)))) 41 2 (iv (k2))) q 5 (iv 1)) 41 5 (iv ((s3 : Int)))) 41 6 (iv ((e3 : Int)))) 41 2 (iv (k3)))) := by
  show am_ev (d + 6) 82 0 [.ref q, .ref 41] [] h _
  refine am_ev.step (pc' := 1) rfl rfl ?_
  refine am_ev.step (pc' := 2) rfl rfl ?_
  refine fx_sip (p' := 5) rfl rfl rfl ?_
  refine ax_call (z := 28) (p' := 8) (as := [_, _, _]) rfl (Or.inr (Or.inl ⟨_, rfl⟩)) rfl rfl rfl rfl rfl rfl (S.ob rfl) rfl (tk_28c (lo := 0) (hi := 9999) (by omega) S B hb hL w1 v6 t1 q1) rfl ?_
  refine fx_z_ne_T (pT := 13) rfl (by omega) rfl (by omega) ?_
  refine am_ev.step (pc' := 14) rfl rfl ?_
  refine am_ev.step (pc' := 15) rfl rfl ?_
  refine ax_call (z := 30) (p' := 18) (as := [_]) rfl (Or.inr (Or.inl ⟨_, rfl⟩)) rfl rfl rfl rfl rfl rfl (fO (fO (fO (S.ob rfl)))) rfl (tk_30w (((S.po rfl rfl).po rfl rfl).po rfl rfl) (((B.put (by decide)).put (by decide)).put (by decide)) hb hL (ax_put_o (Or.inr (by decide)) (ax_put_o (Or.inr (by decide)) (ax_put_o (Or.inr (by decide)) w1))) (ax_put_o (Or.inr (by decide)) (ax_put_o (Or.inr (by decide)) (ax_put_s _ _ _))) (ax_put_o (Or.inr (by decide)) (ax_put_s _ _ _)) t1) rfl ?_
  refine ax_pf (p' := 21) rfl rfl (fO (fO (fO O))) rfl ?_
  refine am_ev.step (pc' := 22) rfl rfl ?_
  refine ax_call (z := 21) (p' := 25) (as := [_]) rfl (Or.inr (Or.inl ⟨_, rfl⟩)) rfl rfl rfl rfl rfl rfl (fO (fO (fO (fO (S.ob rfl))))) rfl (tk_21w ((((S.po rfl rfl).po rfl rfl).po rfl rfl).pd (by omega)) ((((B.put (by decide)).put (by decide)).put (by decide)).put (by omega)) hb hL (ax_put_o (Or.inl (by omega)) (ax_put_o (Or.inr (by decide)) (ax_put_o (Or.inr (by decide)) (ax_put_o (Or.inr (by decide)) w1)))) (ax_put_o (Or.inl (by omega)) (ax_put_o (Or.inr (by decide)) (ax_put_s _ _ _))) t2) rfl ?_
  refine am_ev.step (pc' := 26) rfl rfl ?_
  refine am_ev.ldc rfl rfl rfl rfl ?_
  refine ax_call (z := 26) (p' := 31) (as := [_, _]) rfl (Or.inr (Or.inl ⟨_, rfl⟩)) rfl rfl rfl rfl rfl rfl (fO (fO (fO (fO (fO (fO (fO (S.ob rfl)))))))) rfl ((tk_26 (i := 8) (k := k2) (s := s2) (e := e2) (by decide) (((((((S.po rfl rfl).po rfl rfl).po rfl rfl).pd (by omega)).po rfl rfl).po rfl rfl).po rfl rfl) (((((((B.put (by decide)).put (by decide)).put (by decide)).put (by omega)).put (by decide)).put (by decide)).put (by decide)) hb hL (ax_put_o (Or.inr (by decide)) (ax_put_o (Or.inr (by decide)) (ax_put_o (Or.inr (by decide)) (ax_put_o (Or.inl (by omega)) (ax_put_o (Or.inr (by decide)) (ax_put_o (Or.inr (by decide)) (ax_put_o (Or.inr (by decide)) w1))))))) (ax_put_s _ _ _) (ax_put_o (Or.inr (by decide)) (ax_put_o (Or.inr (by decide)) (ax_put_s _ _ _))) (ax_put_o (Or.inr (by decide)) (ax_put_s _ _ _)) ⟨(t2.f hb).2.1, (t2.f hb).2.2.1⟩ ⟨(t2.f hb).2.2.2.1, Int.le_trans (t2.f hb).2.2.2.2.1 (by decide)⟩).2 ((cl_f_w q2 (n := 0) (by decide)).2 (by decide))) rfl ?_
  refine fx_z_eq_T (pT := 42) rfl (by omega) rfl (by omega) ?_
  refine am_ev.step (pc' := 43) rfl rfl ?_
  refine am_ev.ldc rfl rfl rfl rfl ?_
  refine ax_call (z := 26) (p' := 48) (as := [_, _]) rfl (Or.inr (Or.inl ⟨_, rfl⟩)) rfl rfl rfl rfl rfl rfl (fO (fO (fO (fO (fO (fO (fO (S.ob rfl)))))))) rfl ((tk_26 (i := 10) (k := k2) (s := s2) (e := e2) (by decide) (((((((S.po rfl rfl).po rfl rfl).po rfl rfl).pd (by omega)).po rfl rfl).po rfl rfl).po rfl rfl) (((((((B.put (by decide)).put (by decide)).put (by decide)).put (by omega)).put (by decide)).put (by decide)).put (by decide)) hb hL (ax_put_o (Or.inr (by decide)) (ax_put_o (Or.inr (by decide)) (ax_put_o (Or.inr (by decide)) (ax_put_o (Or.inl (by omega)) (ax_put_o (Or.inr (by decide)) (ax_put_o (Or.inr (by decide)) (ax_put_o (Or.inr (by decide)) w1))))))) (ax_put_s _ _ _) (ax_put_o (Or.inr (by decide)) (ax_put_o (Or.inr (by decide)) (ax_put_s _ _ _))) (ax_put_o (Or.inr (by decide)) (ax_put_s _ _ _)) ⟨(t2.f hb).2.1, (t2.f hb).2.2.1⟩ ⟨(t2.f hb).2.2.2.1, Int.le_trans (t2.f hb).2.2.2.2.1 (by decide)⟩).1 ((cl_f_w q2 (n := 1) (by decide)).1 rfl)) rfl ?_
  refine fx_z_eq_F (pF := 51) rfl (by omega) rfl (by omega) ?_
  refine am_ev.step (pc' := 52) rfl rfl ?_
  refine am_ev.step (pc' := 53) rfl rfl ?_
  refine ax_pf (p' := 56) rfl rfl (fO (fO (fO (fO (fO (fO (fO O))))))) rfl ?_
  refine am_ev.step (pc' := 82) rfl rfl ?_
  refine am_ev.step (pc' := 83) rfl rfl ?_
  refine ax_call (z := 32) (p' := 86) (as := [_]) rfl (Or.inr (Or.inl ⟨_, rfl⟩)) rfl rfl rfl rfl rfl rfl (fO (fO (fO (fO (fO (fO (fO (fO (S.ob rfl))))))))) rfl (tk_32b ((((((((S.po rfl rfl).po rfl rfl).po rfl rfl).pd (by omega)).po rfl rfl).po rfl rfl).po rfl rfl).pd (by omega)) ((((((((B.put (by decide)).put (by decide)).put (by decide)).put (by omega)).put (by decide)).put (by decide)).put (by decide)).put (by omega)) hb hL (ax_put_o (Or.inl (by omega)) (ax_put_o (Or.inr (by decide)) (ax_put_o (Or.inr (by decide)) (ax_put_o (Or.inr (by decide)) (ax_put_o (Or.inl (by omega)) (ax_put_o (Or.inr (by decide)) (ax_put_o (Or.inr (by decide)) (ax_put_o (Or.inr (by decide)) w1)))))))) (ax_put_o (Or.inl (by omega)) (ax_put_o (Or.inr (by decide)) (ax_put_s _ _ _))) t3 q3) rfl ?_
  exact fx_reti rfl rfl rfl
theorem le_82d2 (S : fS h) (B : tb h 42 b L) (hb : tz_r b) (hL : L ≤ 1600) (w1 : h.2.2.2 41 1 = iv L) (v6 : h.2.2.2 41 6 = iv e) (O : am_isO h q 4 = true) (hq : 130 ≤ q) (t1 : tz_t b L e s1 e1 k1 v1) (q1 : k1 = 2 ∧ 0 ≤ v1 ∧ v1 ≤ 9999) (t2 : tz_t b L e1 s2 e2 k2 v2) (q2 : cl_f b s2 e2 k2 ((2 : Nat) : Int)) (t3 : tz_t b L e2 s3 e3 k3 v3) (q3 : k3 ≠ 59) : am_ev (d + 6) 82 0 (am_ent [.ref q, .ref 41] 2) [] h (some (iv 0), (am_put (am_put (am_put (am_put (am_put (am_put (am_put (am_put (am_put (am_put (am_put (am_put (am_put h 41 5 (iv ((s1 : Int)))) 41 6 (iv ((e1 : Int)))) 41 2 (iv (k1))) q 4 (iv (v1))) 41 5 (iv ((s2 : Int)))) 41 6 (iv ((e2 : Int)))) 41 2 (iv (k2))) q 5 (iv 2)) 41 5 (iv ((s3 : Int)))) 41 6 (iv ((e3 : Int)))) 41 2 (iv (k3))) 41 3 (iv 1)) 41 4 (iv ((s3 : Int))))) := by
  show am_ev (d + 6) 82 0 [.ref q, .ref 41] [] h _
  refine am_ev.step (pc' := 1) rfl rfl ?_
  refine am_ev.step (pc' := 2) rfl rfl ?_
  refine fx_sip (p' := 5) rfl rfl rfl ?_
  refine ax_call (z := 28) (p' := 8) (as := [_, _, _]) rfl (Or.inr (Or.inl ⟨_, rfl⟩)) rfl rfl rfl rfl rfl rfl (S.ob rfl) rfl (tk_28c (lo := 0) (hi := 9999) (by omega) S B hb hL w1 v6 t1 q1) rfl ?_
  refine fx_z_ne_T (pT := 13) rfl (by omega) rfl (by omega) ?_
  refine am_ev.step (pc' := 14) rfl rfl ?_
  refine am_ev.step (pc' := 15) rfl rfl ?_
  refine ax_call (z := 30) (p' := 18) (as := [_]) rfl (Or.inr (Or.inl ⟨_, rfl⟩)) rfl rfl rfl rfl rfl rfl (fO (fO (fO (S.ob rfl)))) rfl (tk_30w (((S.po rfl rfl).po rfl rfl).po rfl rfl) (((B.put (by decide)).put (by decide)).put (by decide)) hb hL (ax_put_o (Or.inr (by decide)) (ax_put_o (Or.inr (by decide)) (ax_put_o (Or.inr (by decide)) w1))) (ax_put_o (Or.inr (by decide)) (ax_put_o (Or.inr (by decide)) (ax_put_s _ _ _))) (ax_put_o (Or.inr (by decide)) (ax_put_s _ _ _)) t1) rfl ?_
  refine ax_pf (p' := 21) rfl rfl (fO (fO (fO O))) rfl ?_
  refine am_ev.step (pc' := 22) rfl rfl ?_
  refine ax_call (z := 21) (p' := 25) (as := [_]) rfl (Or.inr (Or.inl ⟨_, rfl⟩)) rfl rfl rfl rfl rfl rfl (fO (fO (fO (fO (S.ob rfl))))) rfl (tk_21w ((((S.po rfl rfl).po rfl rfl).po rfl rfl).pd (by omega)) ((((B.put (by decide)).put (by decide)).put (by decide)).put (by omega)) hb hL (ax_put_o (Or.inl (by omega)) (ax_put_o (Or.inr (by decide)) (ax_put_o (Or.inr (by decide)) (ax_put_o (Or.inr (by decide)) w1)))) (ax_put_o (Or.inl (by omega)) (ax_put_o (Or.inr (by decide)) (ax_put_s _ _ _))) t2) rfl ?_
  refine am_ev.step (pc' := 26) rfl rfl ?_
  refine am_ev.ldc rfl rfl rfl rfl ?_
  refine ax_call (z := 26) (p' := 31) (as := [_, _]) rfl (Or.inr (Or.inl ⟨_, rfl⟩)) rfl rfl rfl rfl rfl rfl (fO (fO (fO (fO (fO (fO (fO (S.ob rfl)))))))) rfl ((tk_26 (i := 8) (k := k2) (s := s2) (e := e2) (by decide) (((((((S.po rfl rfl).po rfl rfl).po rfl rfl).pd (by omega)).po rfl rfl).po rfl rfl).po rfl rfl) (((((((B.put (by decide)).put (by decide)).put (by decide)).put (by omega)).put (by decide)).put (by decide)).put (by decide)) hb hL (ax_put_o (Or.inr (by decide)) (ax_put_o (Or.inr (by decide)) (ax_put_o (Or.inr (by decide)) (ax_put_o (Or.inl (by omega)) (ax_put_o (Or.inr (by decide)) (ax_put_o (Or.inr (by decide)) (ax_put_o (Or.inr (by decide)) w1))))))) (ax_put_s _ _ _) (ax_put_o (Or.inr (by decide)) (ax_put_o (Or.inr (by decide)) (ax_put_s _ _ _))) (ax_put_o (Or.inr (by decide)) (ax_put_s _ _ _)) ⟨(t2.f hb).2.1, (t2.f hb).2.2.1⟩ ⟨(t2.f hb).2.2.2.1, Int.le_trans (t2.f hb).2.2.2.2.1 (by decide)⟩).2 ((cl_f_w q2 (n := 0) (by decide)).2 (by decide))) rfl ?_
  refine fx_z_eq_T (pT := 42) rfl (by omega) rfl (by omega) ?_
  refine am_ev.step (pc' := 43) rfl rfl ?_
  refine am_ev.ldc rfl rfl rfl rfl ?_
  refine ax_call (z := 26) (p' := 48) (as := [_, _]) rfl (Or.inr (Or.inl ⟨_, rfl⟩)) rfl rfl rfl rfl rfl rfl (fO (fO (fO (fO (fO (fO (fO (S.ob rfl)))))))) rfl ((tk_26 (i := 10) (k := k2) (s := s2) (e := e2) (by decide) (((((((S.po rfl rfl).po rfl rfl).po rfl rfl).pd (by omega)).po rfl rfl).po rfl rfl).po rfl rfl) (((((((B.put (by decide)).put (by decide)).put (by decide)).put (by omega)).put (by decide)).put (by decide)).put (by decide)) hb hL (ax_put_o (Or.inr (by decide)) (ax_put_o (Or.inr (by decide)) (ax_put_o (Or.inr (by decide)) (ax_put_o (Or.inl (by omega)) (ax_put_o (Or.inr (by decide)) (ax_put_o (Or.inr (by decide)) (ax_put_o (Or.inr (by decide)) w1))))))) (ax_put_s _ _ _) (ax_put_o (Or.inr (by decide)) (ax_put_o (Or.inr (by decide)) (ax_put_s _ _ _))) (ax_put_o (Or.inr (by decide)) (ax_put_s _ _ _)) ⟨(t2.f hb).2.1, (t2.f hb).2.2.1⟩ ⟨(t2.f hb).2.2.2.1, Int.le_trans (t2.f hb).2.2.2.2.1 (by decide)⟩).2 ((cl_f_w q2 (n := 1) (by decide)).2 (by decide))) rfl ?_
  refine fx_z_eq_T (pT := 59) rfl (by omega) rfl (by omega) ?_
  refine am_ev.step (pc' := 60) rfl rfl ?_
  refine am_ev.ldc rfl rfl rfl rfl ?_
  refine ax_call (z := 26) (p' := 65) (as := [_, _]) rfl (Or.inr (Or.inl ⟨_, rfl⟩)) rfl rfl rfl rfl rfl rfl (fO (fO (fO (fO (fO (fO (fO (S.ob rfl)))))))) rfl ((tk_26 (i := 0) (k := k2) (s := s2) (e := e2) (by decide) (((((((S.po rfl rfl).po rfl rfl).po rfl rfl).pd (by omega)).po rfl rfl).po rfl rfl).po rfl rfl) (((((((B.put (by decide)).put (by decide)).put (by decide)).put (by omega)).put (by decide)).put (by decide)).put (by decide)) hb hL (ax_put_o (Or.inr (by decide)) (ax_put_o (Or.inr (by decide)) (ax_put_o (Or.inr (by decide)) (ax_put_o (Or.inl (by omega)) (ax_put_o (Or.inr (by decide)) (ax_put_o (Or.inr (by decide)) (ax_put_o (Or.inr (by decide)) w1))))))) (ax_put_s _ _ _) (ax_put_o (Or.inr (by decide)) (ax_put_o (Or.inr (by decide)) (ax_put_s _ _ _))) (ax_put_o (Or.inr (by decide)) (ax_put_s _ _ _)) ⟨(t2.f hb).2.1, (t2.f hb).2.2.1⟩ ⟨(t2.f hb).2.2.2.1, Int.le_trans (t2.f hb).2.2.2.2.1 (by decide)⟩).1 ((cl_f_w q2 (n := 2) (by decide)).1 rfl)) rfl ?_
  refine fx_z_eq_F (pF := 68) rfl (by omega) rfl (by omega) ?_
  refine am_ev.step (pc' := 69) rfl rfl ?_
  refine am_ev.step (pc' := 70) rfl rfl ?_
  refine ax_pf (p' := 73) rfl rfl (fO (fO (fO (fO (fO (fO (fO O))))))) rfl ?_
  refine am_ev.step (pc' := 82) rfl rfl ?_
  refine am_ev.step (pc' := 83) rfl rfl ?_
  refine ax_call (z := 32) (p' := 86) (as := [_]) rfl (Or.inr (Or.inl ⟨_, rfl⟩)) rfl rfl rfl rfl rfl rfl (fO (fO (fO (fO (fO (fO (fO (fO (S.ob rfl))))))))) rfl (tk_32a ((((((((S.po rfl rfl).po rfl rfl).po rfl rfl).pd (by omega)).po rfl rfl).po rfl rfl).po rfl rfl).pd (by omega)) ((((((((B.put (by decide)).put (by decide)).put (by decide)).put (by omega)).put (by decide)).put (by decide)).put (by decide)).put (by omega)) hb hL (ax_put_o (Or.inl (by omega)) (ax_put_o (Or.inr (by decide)) (ax_put_o (Or.inr (by decide)) (ax_put_o (Or.inr (by decide)) (ax_put_o (Or.inl (by omega)) (ax_put_o (Or.inr (by decide)) (ax_put_o (Or.inr (by decide)) (ax_put_o (Or.inr (by decide)) w1)))))))) (ax_put_o (Or.inl (by omega)) (ax_put_o (Or.inr (by decide)) (ax_put_s _ _ _))) t3 q3) rfl ?_
  exact fx_reti rfl rfl rfl
theorem le_82e2 (S : fS h) (B : tb h 42 b L) (hb : tz_r b) (hL : L ≤ 1600) (w1 : h.2.2.2 41 1 = iv L) (v6 : h.2.2.2 41 6 = iv e) (O : am_isO h q 4 = true) (hq : 130 ≤ q) (t1 : tz_t b L e s1 e1 k1 v1) (q1 : k1 = 2 ∧ 0 ≤ v1 ∧ v1 ≤ 9999) (t2 : tz_t b L e1 s2 e2 k2 v2) (q2 : cl_f b s2 e2 k2 ((2 : Nat) : Int)) (t3 : tz_t b L e2 s3 e3 k3 v3) (q3 : k3 = 59) : am_ev (d + 6) 82 0 (am_ent [.ref q, .ref 41] 2) [] h (some (iv 1), (am_put (am_put (am_put (am_put (am_put (am_put (am_put (am_put (am_put (am_put (am_put h 41 5 (iv ((s1 : Int)))) 41 6 (iv ((e1 : Int)))) 41 2 (iv (k1))) q 4 (iv (v1))) 41 5 (iv ((s2 : Int)))) 41 6 (iv ((e2 : Int)))) 41 2 (iv (k2))) q 5 (iv 2)) 41 5 (iv ((s3 : Int)))) 41 6 (iv ((e3 : Int)))) 41 2 (iv (k3)))) := by
  show am_ev (d + 6) 82 0 [.ref q, .ref 41] [] h _
  refine am_ev.step (pc' := 1) rfl rfl ?_
  refine am_ev.step (pc' := 2) rfl rfl ?_
  refine fx_sip (p' := 5) rfl rfl rfl ?_
  refine ax_call (z := 28) (p' := 8) (as := [_, _, _]) rfl (Or.inr (Or.inl ⟨_, rfl⟩)) rfl rfl rfl rfl rfl rfl (S.ob rfl) rfl (tk_28c (lo := 0) (hi := 9999) (by omega) S B hb hL w1 v6 t1 q1) rfl ?_
  refine fx_z_ne_T (pT := 13) rfl (by omega) rfl (by omega) ?_
  refine am_ev.step (pc' := 14) rfl rfl ?_
  refine am_ev.step (pc' := 15) rfl rfl ?_
  refine ax_call (z := 30) (p' := 18) (as := [_]) rfl (Or.inr (Or.inl ⟨_, rfl⟩)) rfl rfl rfl rfl rfl rfl (fO (fO (fO (S.ob rfl)))) rfl (tk_30w (((S.po rfl rfl).po rfl rfl).po rfl rfl) (((B.put (by decide)).put (by decide)).put (by decide)) hb hL (ax_put_o (Or.inr (by decide)) (ax_put_o (Or.inr (by decide)) (ax_put_o (Or.inr (by decide)) w1))) (ax_put_o (Or.inr (by decide)) (ax_put_o (Or.inr (by decide)) (ax_put_s _ _ _))) (ax_put_o (Or.inr (by decide)) (ax_put_s _ _ _)) t1) rfl ?_
  refine ax_pf (p' := 21) rfl rfl (fO (fO (fO O))) rfl ?_
  refine am_ev.step (pc' := 22) rfl rfl ?_
  refine ax_call (z := 21) (p' := 25) (as := [_]) rfl (Or.inr (Or.inl ⟨_, rfl⟩)) rfl rfl rfl rfl rfl rfl (fO (fO (fO (fO (S.ob rfl))))) rfl (tk_21w ((((S.po rfl rfl).po rfl rfl).po rfl rfl).pd (by omega)) ((((B.put (by decide)).put (by decide)).put (by decide)).put (by omega)) hb hL (ax_put_o (Or.inl (by omega)) (ax_put_o (Or.inr (by decide)) (ax_put_o (Or.inr (by decide)) (ax_put_o (Or.inr (by decide)) w1)))) (ax_put_o (Or.inl (by omega)) (ax_put_o (Or.inr (by decide)) (ax_put_s _ _ _))) t2) rfl ?_
  refine am_ev.step (pc' := 26) rfl rfl ?_
  refine am_ev.ldc rfl rfl rfl rfl ?_
  refine ax_call (z := 26) (p' := 31) (as := [_, _]) rfl (Or.inr (Or.inl ⟨_, rfl⟩)) rfl rfl rfl rfl rfl rfl (fO (fO (fO (fO (fO (fO (fO (S.ob rfl)))))))) rfl ((tk_26 (i := 8) (k := k2) (s := s2) (e := e2) (by decide) (((((((S.po rfl rfl).po rfl rfl).po rfl rfl).pd (by omega)).po rfl rfl).po rfl rfl).po rfl rfl) (((((((B.put (by decide)).put (by decide)).put (by decide)).put (by omega)).put (by decide)).put (by decide)).put (by decide)) hb hL (ax_put_o (Or.inr (by decide)) (ax_put_o (Or.inr (by decide)) (ax_put_o (Or.inr (by decide)) (ax_put_o (Or.inl (by omega)) (ax_put_o (Or.inr (by decide)) (ax_put_o (Or.inr (by decide)) (ax_put_o (Or.inr (by decide)) w1))))))) (ax_put_s _ _ _) (ax_put_o (Or.inr (by decide)) (ax_put_o (Or.inr (by decide)) (ax_put_s _ _ _))) (ax_put_o (Or.inr (by decide)) (ax_put_s _ _ _)) ⟨(t2.f hb).2.1, (t2.f hb).2.2.1⟩ ⟨(t2.f hb).2.2.2.1, Int.le_trans (t2.f hb).2.2.2.2.1 (by decide)⟩).2 ((cl_f_w q2 (n := 0) (by decide)).2 (by decide))) rfl ?_
  refine fx_z_eq_T (pT := 42) rfl (by omega) rfl (by omega) ?_
  refine am_ev.step (pc' := 43) rfl rfl ?_
  refine am_ev.ldc rfl rfl rfl rfl ?_
  refine ax_call (z := 26) (p' := 48) (as := [_, _]) rfl (Or.inr (Or.inl ⟨_, rfl⟩)) rfl rfl rfl rfl rfl rfl (fO (fO (fO (fO (fO (fO (fO (S.ob rfl)))))))) rfl ((tk_26 (i := 10) (k := k2) (s := s2) (e := e2) (by decide) (((((((S.po rfl rfl).po rfl rfl).po rfl rfl).pd (by omega)).po rfl rfl).po rfl rfl).po rfl rfl) (((((((B.put (by decide)).put (by decide)).put (by decide)).put (by omega)).put (by decide)).put (by decide)).put (by decide)) hb hL (ax_put_o (Or.inr (by decide)) (ax_put_o (Or.inr (by decide)) (ax_put_o (Or.inr (by decide)) (ax_put_o (Or.inl (by omega)) (ax_put_o (Or.inr (by decide)) (ax_put_o (Or.inr (by decide)) (ax_put_o (Or.inr (by decide)) w1))))))) (ax_put_s _ _ _) (ax_put_o (Or.inr (by decide)) (ax_put_o (Or.inr (by decide)) (ax_put_s _ _ _))) (ax_put_o (Or.inr (by decide)) (ax_put_s _ _ _)) ⟨(t2.f hb).2.1, (t2.f hb).2.2.1⟩ ⟨(t2.f hb).2.2.2.1, Int.le_trans (t2.f hb).2.2.2.2.1 (by decide)⟩).2 ((cl_f_w q2 (n := 1) (by decide)).2 (by decide))) rfl ?_
  refine fx_z_eq_T (pT := 59) rfl (by omega) rfl (by omega) ?_
  refine am_ev.step (pc' := 60) rfl rfl ?_
  refine am_ev.ldc rfl rfl rfl rfl ?_
  refine ax_call (z := 26) (p' := 65) (as := [_, _]) rfl (Or.inr (Or.inl ⟨_, rfl⟩)) rfl rfl rfl rfl rfl rfl (fO (fO (fO (fO (fO (fO (fO (S.ob rfl)))))))) rfl ((tk_26 (i := 0) (k := k2) (s := s2) (e := e2) (by decide) (((((((S.po rfl rfl).po rfl rfl).po rfl rfl).pd (by omega)).po rfl rfl).po rfl rfl).po rfl rfl) (((((((B.put (by decide)).put (by decide)).put (by decide)).put (by omega)).put (by decide)).put (by decide)).put (by decide)) hb hL (ax_put_o (Or.inr (by decide)) (ax_put_o (Or.inr (by decide)) (ax_put_o (Or.inr (by decide)) (ax_put_o (Or.inl (by omega)) (ax_put_o (Or.inr (by decide)) (ax_put_o (Or.inr (by decide)) (ax_put_o (Or.inr (by decide)) w1))))))) (ax_put_s _ _ _) (ax_put_o (Or.inr (by decide)) (ax_put_o (Or.inr (by decide)) (ax_put_s _ _ _))) (ax_put_o (Or.inr (by decide)) (ax_put_s _ _ _)) ⟨(t2.f hb).2.1, (t2.f hb).2.2.1⟩ ⟨(t2.f hb).2.2.2.1, Int.le_trans (t2.f hb).2.2.2.2.1 (by decide)⟩).1 ((cl_f_w q2 (n := 2) (by decide)).1 rfl)) rfl ?_
  refine fx_z_eq_F (pF := 68) rfl (by omega) rfl (by omega) ?_
  refine am_ev.step (pc' := 69) rfl rfl ?_
  refine am_ev.step (pc' := 70) rfl rfl ?_
  refine ax_pf (p' := 73) rfl rfl (fO (fO (fO (fO (fO (fO (fO O))))))) rfl ?_
  refine am_ev.step (pc' := 82) rfl rfl ?_
  refine am_ev.step (pc' := 83) rfl rfl ?_
  refine ax_call (z := 32) (p' := 86) (as := [_]) rfl (Or.inr (Or.inl ⟨_, rfl⟩)) rfl rfl rfl rfl rfl rfl (fO (fO (fO (fO (fO (fO (fO (fO (S.ob rfl))))))))) rfl (tk_32b ((((((((S.po rfl rfl).po rfl rfl).po rfl rfl).pd (by omega)).po rfl rfl).po rfl rfl).po rfl rfl).pd (by omega)) ((((((((B.put (by decide)).put (by decide)).put (by decide)).put (by omega)).put (by decide)).put (by decide)).put (by decide)).put (by omega)) hb hL (ax_put_o (Or.inl (by omega)) (ax_put_o (Or.inr (by decide)) (ax_put_o (Or.inr (by decide)) (ax_put_o (Or.inr (by decide)) (ax_put_o (Or.inl (by omega)) (ax_put_o (Or.inr (by decide)) (ax_put_o (Or.inr (by decide)) (ax_put_o (Or.inr (by decide)) w1)))))))) (ax_put_o (Or.inl (by omega)) (ax_put_o (Or.inr (by decide)) (ax_put_s _ _ _))) t3 q3) rfl ?_
  exact fx_reti rfl rfl rfl
end LEA
section LEB
variable {d : Nat} {h : am_H} {b : Nat → Int} {L p s e : Nat} {k v c : Int}
theorem le_77 (S : fS h) (B : tb h 42 b L) (hb : tz_r b) (hL : L ≤ 1600) (w1 : h.2.2.2 41 1 = iv L) (v2 : h.2.2.2 41 2 = iv k) (v5 : h.2.2.2 41 5 = iv s) (v6 : h.2.2.2 41 6 = iv e) (t0 : tz_t b L p s e k v) (q : cl_l b s e k c) : am_ev (d + 6) 77 0 (am_ent [.ref 41] 1) [] h (some (iv c), h) := by
  show am_ev (d + 6) 77 0 [.ref 41] [] h _
  have q0 := q
  rcases q with ⟨n, hn, rfl, -⟩ | ⟨rfl, -⟩
  · have w : ∀ m : Nat, m < 6 → (n = m → tz_w b s e k (tx_l m)) ∧ (n ≠ m → ¬ tz_w b s e k (tx_l m)) := fun m hm => ⟨fun z => (cl_l_w q0 hm).1 (by omega), fun z => (cl_l_w q0 hm).2 (by omega)⟩
    have hn2 : n = 0 ∨ n = 1 ∨ n = 2 ∨ n = 3 ∨ n = 4 ∨ n = 5 := by omega
    rcases hn2 with rfl | rfl | rfl | rfl | rfl | rfl
    · refine am_ev.step (pc' := 1) rfl rfl ?_
      refine am_ev.ldc rfl rfl rfl rfl ?_
      refine ax_call (z := 26) (p' := 6) (as := [_, _]) rfl (Or.inr (Or.inl ⟨_, rfl⟩)) rfl rfl rfl rfl rfl rfl (S.ob rfl) rfl ((tk_26 (i := 7) (k := k) (s := s) (e := e) (by decide) S B hb hL w1 v2 v5 v6 ⟨(t0.f hb).2.1, (t0.f hb).2.2.1⟩ ⟨(t0.f hb).2.2.2.1, Int.le_trans (t0.f hb).2.2.2.2.1 (by decide)⟩).1 ((w 0 (by decide)).1 rfl)) rfl ?_
      refine fx_z_eq_F (pF := 9) rfl (by omega) rfl (by omega) ?_
      refine am_ev.step (pc' := 10) rfl rfl ?_
      exact fx_reti rfl rfl rfl
    · refine am_ev.step (pc' := 1) rfl rfl ?_
      refine am_ev.ldc rfl rfl rfl rfl ?_
      refine ax_call (z := 26) (p' := 6) (as := [_, _]) rfl (Or.inr (Or.inl ⟨_, rfl⟩)) rfl rfl rfl rfl rfl rfl (S.ob rfl) rfl ((tk_26 (i := 7) (k := k) (s := s) (e := e) (by decide) S B hb hL w1 v2 v5 v6 ⟨(t0.f hb).2.1, (t0.f hb).2.2.1⟩ ⟨(t0.f hb).2.2.2.1, Int.le_trans (t0.f hb).2.2.2.2.1 (by decide)⟩).2 ((w 0 (by decide)).2 (by decide))) rfl ?_
      refine fx_z_eq_T (pT := 11) rfl (by omega) rfl (by omega) ?_
      refine am_ev.step (pc' := 12) rfl rfl ?_
      refine am_ev.ldc rfl rfl rfl rfl ?_
      refine ax_call (z := 26) (p' := 17) (as := [_, _]) rfl (Or.inr (Or.inl ⟨_, rfl⟩)) rfl rfl rfl rfl rfl rfl (S.ob rfl) rfl ((tk_26 (i := 15) (k := k) (s := s) (e := e) (by decide) S B hb hL w1 v2 v5 v6 ⟨(t0.f hb).2.1, (t0.f hb).2.2.1⟩ ⟨(t0.f hb).2.2.2.1, Int.le_trans (t0.f hb).2.2.2.2.1 (by decide)⟩).1 ((w 1 (by decide)).1 rfl)) rfl ?_
      refine fx_z_eq_F (pF := 20) rfl (by omega) rfl (by omega) ?_
      refine am_ev.step (pc' := 21) rfl rfl ?_
      exact fx_reti rfl rfl rfl
    · refine am_ev.step (pc' := 1) rfl rfl ?_
      refine am_ev.ldc rfl rfl rfl rfl ?_
      refine ax_call (z := 26) (p' := 6) (as := [_, _]) rfl (Or.inr (Or.inl ⟨_, rfl⟩)) rfl rfl rfl rfl rfl rfl (S.ob rfl) rfl ((tk_26 (i := 7) (k := k) (s := s) (e := e) (by decide) S B hb hL w1 v2 v5 v6 ⟨(t0.f hb).2.1, (t0.f hb).2.2.1⟩ ⟨(t0.f hb).2.2.2.1, Int.le_trans (t0.f hb).2.2.2.2.1 (by decide)⟩).2 ((w 0 (by decide)).2 (by decide))) rfl ?_
      refine fx_z_eq_T (pT := 11) rfl (by omega) rfl (by omega) ?_
      refine am_ev.step (pc' := 12) rfl rfl ?_
      refine am_ev.ldc rfl rfl rfl rfl ?_
      refine ax_call (z := 26) (p' := 17) (as := [_, _]) rfl (Or.inr (Or.inl ⟨_, rfl⟩)) rfl rfl rfl rfl rfl rfl (S.ob rfl) rfl ((tk_26 (i := 15) (k := k) (s := s) (e := e) (by decide) S B hb hL w1 v2 v5 v6 ⟨(t0.f hb).2.1, (t0.f hb).2.2.1⟩ ⟨(t0.f hb).2.2.2.1, Int.le_trans (t0.f hb).2.2.2.2.1 (by decide)⟩).2 ((w 1 (by decide)).2 (by decide))) rfl ?_
      refine fx_z_eq_T (pT := 22) rfl (by omega) rfl (by omega) ?_
      refine am_ev.step (pc' := 23) rfl rfl ?_
      refine am_ev.ldc rfl rfl rfl rfl ?_
      refine ax_call (z := 26) (p' := 28) (as := [_, _]) rfl (Or.inr (Or.inl ⟨_, rfl⟩)) rfl rfl rfl rfl rfl rfl (S.ob rfl) rfl ((tk_26 (i := 4) (k := k) (s := s) (e := e) (by decide) S B hb hL w1 v2 v5 v6 ⟨(t0.f hb).2.1, (t0.f hb).2.2.1⟩ ⟨(t0.f hb).2.2.2.1, Int.le_trans (t0.f hb).2.2.2.2.1 (by decide)⟩).1 ((w 2 (by decide)).1 rfl)) rfl ?_
      refine fx_z_eq_F (pF := 31) rfl (by omega) rfl (by omega) ?_
      refine am_ev.step (pc' := 32) rfl rfl ?_
      exact fx_reti rfl rfl rfl
    · refine am_ev.step (pc' := 1) rfl rfl ?_
      refine am_ev.ldc rfl rfl rfl rfl ?_
      refine ax_call (z := 26) (p' := 6) (as := [_, _]) rfl (Or.inr (Or.inl ⟨_, rfl⟩)) rfl rfl rfl rfl rfl rfl (S.ob rfl) rfl ((tk_26 (i := 7) (k := k) (s := s) (e := e) (by decide) S B hb hL w1 v2 v5 v6 ⟨(t0.f hb).2.1, (t0.f hb).2.2.1⟩ ⟨(t0.f hb).2.2.2.1, Int.le_trans (t0.f hb).2.2.2.2.1 (by decide)⟩).2 ((w 0 (by decide)).2 (by decide))) rfl ?_
      refine fx_z_eq_T (pT := 11) rfl (by omega) rfl (by omega) ?_
      refine am_ev.step (pc' := 12) rfl rfl ?_
      refine am_ev.ldc rfl rfl rfl rfl ?_
      refine ax_call (z := 26) (p' := 17) (as := [_, _]) rfl (Or.inr (Or.inl ⟨_, rfl⟩)) rfl rfl rfl rfl rfl rfl (S.ob rfl) rfl ((tk_26 (i := 15) (k := k) (s := s) (e := e) (by decide) S B hb hL w1 v2 v5 v6 ⟨(t0.f hb).2.1, (t0.f hb).2.2.1⟩ ⟨(t0.f hb).2.2.2.1, Int.le_trans (t0.f hb).2.2.2.2.1 (by decide)⟩).2 ((w 1 (by decide)).2 (by decide))) rfl ?_
      refine fx_z_eq_T (pT := 22) rfl (by omega) rfl (by omega) ?_
      refine am_ev.step (pc' := 23) rfl rfl ?_
      refine am_ev.ldc rfl rfl rfl rfl ?_
      refine ax_call (z := 26) (p' := 28) (as := [_, _]) rfl (Or.inr (Or.inl ⟨_, rfl⟩)) rfl rfl rfl rfl rfl rfl (S.ob rfl) rfl ((tk_26 (i := 4) (k := k) (s := s) (e := e) (by decide) S B hb hL w1 v2 v5 v6 ⟨(t0.f hb).2.1, (t0.f hb).2.2.1⟩ ⟨(t0.f hb).2.2.2.1, Int.le_trans (t0.f hb).2.2.2.2.1 (by decide)⟩).2 ((w 2 (by decide)).2 (by decide))) rfl ?_
      refine fx_z_eq_T (pT := 33) rfl (by omega) rfl (by omega) ?_
      refine am_ev.step (pc' := 34) rfl rfl ?_
      refine am_ev.ldc rfl rfl rfl rfl ?_
      refine ax_call (z := 26) (p' := 39) (as := [_, _]) rfl (Or.inr (Or.inl ⟨_, rfl⟩)) rfl rfl rfl rfl rfl rfl (S.ob rfl) rfl ((tk_26 (i := 1) (k := k) (s := s) (e := e) (by decide) S B hb hL w1 v2 v5 v6 ⟨(t0.f hb).2.1, (t0.f hb).2.2.1⟩ ⟨(t0.f hb).2.2.2.1, Int.le_trans (t0.f hb).2.2.2.2.1 (by decide)⟩).1 ((w 3 (by decide)).1 rfl)) rfl ?_
      refine fx_z_eq_F (pF := 42) rfl (by omega) rfl (by omega) ?_
      refine am_ev.step (pc' := 43) rfl rfl ?_
      exact fx_reti rfl rfl rfl
    · refine am_ev.step (pc' := 1) rfl rfl ?_
      refine am_ev.ldc rfl rfl rfl rfl ?_
      refine ax_call (z := 26) (p' := 6) (as := [_, _]) rfl (Or.inr (Or.inl ⟨_, rfl⟩)) rfl rfl rfl rfl rfl rfl (S.ob rfl) rfl ((tk_26 (i := 7) (k := k) (s := s) (e := e) (by decide) S B hb hL w1 v2 v5 v6 ⟨(t0.f hb).2.1, (t0.f hb).2.2.1⟩ ⟨(t0.f hb).2.2.2.1, Int.le_trans (t0.f hb).2.2.2.2.1 (by decide)⟩).2 ((w 0 (by decide)).2 (by decide))) rfl ?_
      refine fx_z_eq_T (pT := 11) rfl (by omega) rfl (by omega) ?_
      refine am_ev.step (pc' := 12) rfl rfl ?_
      refine am_ev.ldc rfl rfl rfl rfl ?_
      refine ax_call (z := 26) (p' := 17) (as := [_, _]) rfl (Or.inr (Or.inl ⟨_, rfl⟩)) rfl rfl rfl rfl rfl rfl (S.ob rfl) rfl ((tk_26 (i := 15) (k := k) (s := s) (e := e) (by decide) S B hb hL w1 v2 v5 v6 ⟨(t0.f hb).2.1, (t0.f hb).2.2.1⟩ ⟨(t0.f hb).2.2.2.1, Int.le_trans (t0.f hb).2.2.2.2.1 (by decide)⟩).2 ((w 1 (by decide)).2 (by decide))) rfl ?_
      refine fx_z_eq_T (pT := 22) rfl (by omega) rfl (by omega) ?_
      refine am_ev.step (pc' := 23) rfl rfl ?_
      refine am_ev.ldc rfl rfl rfl rfl ?_
      refine ax_call (z := 26) (p' := 28) (as := [_, _]) rfl (Or.inr (Or.inl ⟨_, rfl⟩)) rfl rfl rfl rfl rfl rfl (S.ob rfl) rfl ((tk_26 (i := 4) (k := k) (s := s) (e := e) (by decide) S B hb hL w1 v2 v5 v6 ⟨(t0.f hb).2.1, (t0.f hb).2.2.1⟩ ⟨(t0.f hb).2.2.2.1, Int.le_trans (t0.f hb).2.2.2.2.1 (by decide)⟩).2 ((w 2 (by decide)).2 (by decide))) rfl ?_
      refine fx_z_eq_T (pT := 33) rfl (by omega) rfl (by omega) ?_
      refine am_ev.step (pc' := 34) rfl rfl ?_
      refine am_ev.ldc rfl rfl rfl rfl ?_
      refine ax_call (z := 26) (p' := 39) (as := [_, _]) rfl (Or.inr (Or.inl ⟨_, rfl⟩)) rfl rfl rfl rfl rfl rfl (S.ob rfl) rfl ((tk_26 (i := 1) (k := k) (s := s) (e := e) (by decide) S B hb hL w1 v2 v5 v6 ⟨(t0.f hb).2.1, (t0.f hb).2.2.1⟩ ⟨(t0.f hb).2.2.2.1, Int.le_trans (t0.f hb).2.2.2.2.1 (by decide)⟩).2 ((w 3 (by decide)).2 (by decide))) rfl ?_
      refine fx_z_eq_T (pT := 44) rfl (by omega) rfl (by omega) ?_
      refine am_ev.step (pc' := 45) rfl rfl ?_
      refine am_ev.ldc rfl rfl rfl rfl ?_
      refine ax_call (z := 26) (p' := 50) (as := [_, _]) rfl (Or.inr (Or.inl ⟨_, rfl⟩)) rfl rfl rfl rfl rfl rfl (S.ob rfl) rfl ((tk_26 (i := 3) (k := k) (s := s) (e := e) (by decide) S B hb hL w1 v2 v5 v6 ⟨(t0.f hb).2.1, (t0.f hb).2.2.1⟩ ⟨(t0.f hb).2.2.2.1, Int.le_trans (t0.f hb).2.2.2.2.1 (by decide)⟩).1 ((w 4 (by decide)).1 rfl)) rfl ?_
      refine fx_z_eq_F (pF := 53) rfl (by omega) rfl (by omega) ?_
      refine am_ev.step (pc' := 54) rfl rfl ?_
      exact fx_reti rfl rfl rfl
    · refine am_ev.step (pc' := 1) rfl rfl ?_
      refine am_ev.ldc rfl rfl rfl rfl ?_
      refine ax_call (z := 26) (p' := 6) (as := [_, _]) rfl (Or.inr (Or.inl ⟨_, rfl⟩)) rfl rfl rfl rfl rfl rfl (S.ob rfl) rfl ((tk_26 (i := 7) (k := k) (s := s) (e := e) (by decide) S B hb hL w1 v2 v5 v6 ⟨(t0.f hb).2.1, (t0.f hb).2.2.1⟩ ⟨(t0.f hb).2.2.2.1, Int.le_trans (t0.f hb).2.2.2.2.1 (by decide)⟩).2 ((w 0 (by decide)).2 (by decide))) rfl ?_
      refine fx_z_eq_T (pT := 11) rfl (by omega) rfl (by omega) ?_
      refine am_ev.step (pc' := 12) rfl rfl ?_
      refine am_ev.ldc rfl rfl rfl rfl ?_
      refine ax_call (z := 26) (p' := 17) (as := [_, _]) rfl (Or.inr (Or.inl ⟨_, rfl⟩)) rfl rfl rfl rfl rfl rfl (S.ob rfl) rfl ((tk_26 (i := 15) (k := k) (s := s) (e := e) (by decide) S B hb hL w1 v2 v5 v6 ⟨(t0.f hb).2.1, (t0.f hb).2.2.1⟩ ⟨(t0.f hb).2.2.2.1, Int.le_trans (t0.f hb).2.2.2.2.1 (by decide)⟩).2 ((w 1 (by decide)).2 (by decide))) rfl ?_
      refine fx_z_eq_T (pT := 22) rfl (by omega) rfl (by omega) ?_
      refine am_ev.step (pc' := 23) rfl rfl ?_
      refine am_ev.ldc rfl rfl rfl rfl ?_
      refine ax_call (z := 26) (p' := 28) (as := [_, _]) rfl (Or.inr (Or.inl ⟨_, rfl⟩)) rfl rfl rfl rfl rfl rfl (S.ob rfl) rfl ((tk_26 (i := 4) (k := k) (s := s) (e := e) (by decide) S B hb hL w1 v2 v5 v6 ⟨(t0.f hb).2.1, (t0.f hb).2.2.1⟩ ⟨(t0.f hb).2.2.2.1, Int.le_trans (t0.f hb).2.2.2.2.1 (by decide)⟩).2 ((w 2 (by decide)).2 (by decide))) rfl ?_
      refine fx_z_eq_T (pT := 33) rfl (by omega) rfl (by omega) ?_
      refine am_ev.step (pc' := 34) rfl rfl ?_
      refine am_ev.ldc rfl rfl rfl rfl ?_
      refine ax_call (z := 26) (p' := 39) (as := [_, _]) rfl (Or.inr (Or.inl ⟨_, rfl⟩)) rfl rfl rfl rfl rfl rfl (S.ob rfl) rfl ((tk_26 (i := 1) (k := k) (s := s) (e := e) (by decide) S B hb hL w1 v2 v5 v6 ⟨(t0.f hb).2.1, (t0.f hb).2.2.1⟩ ⟨(t0.f hb).2.2.2.1, Int.le_trans (t0.f hb).2.2.2.2.1 (by decide)⟩).2 ((w 3 (by decide)).2 (by decide))) rfl ?_
      refine fx_z_eq_T (pT := 44) rfl (by omega) rfl (by omega) ?_
      refine am_ev.step (pc' := 45) rfl rfl ?_
      refine am_ev.ldc rfl rfl rfl rfl ?_
      refine ax_call (z := 26) (p' := 50) (as := [_, _]) rfl (Or.inr (Or.inl ⟨_, rfl⟩)) rfl rfl rfl rfl rfl rfl (S.ob rfl) rfl ((tk_26 (i := 3) (k := k) (s := s) (e := e) (by decide) S B hb hL w1 v2 v5 v6 ⟨(t0.f hb).2.1, (t0.f hb).2.2.1⟩ ⟨(t0.f hb).2.2.2.1, Int.le_trans (t0.f hb).2.2.2.2.1 (by decide)⟩).2 ((w 4 (by decide)).2 (by decide))) rfl ?_
      refine fx_z_eq_T (pT := 55) rfl (by omega) rfl (by omega) ?_
      refine am_ev.step (pc' := 56) rfl rfl ?_
      refine am_ev.ldc rfl rfl rfl rfl ?_
      refine ax_call (z := 26) (p' := 61) (as := [_, _]) rfl (Or.inr (Or.inl ⟨_, rfl⟩)) rfl rfl rfl rfl rfl rfl (S.ob rfl) rfl ((tk_26 (i := 2) (k := k) (s := s) (e := e) (by decide) S B hb hL w1 v2 v5 v6 ⟨(t0.f hb).2.1, (t0.f hb).2.2.1⟩ ⟨(t0.f hb).2.2.2.1, Int.le_trans (t0.f hb).2.2.2.2.1 (by decide)⟩).1 ((w 5 (by decide)).1 rfl)) rfl ?_
      refine fx_z_eq_F (pF := 64) rfl (by omega) rfl (by omega) ?_
      refine am_ev.step (pc' := 65) rfl rfl ?_
      refine am_ev.step (pc' := 69) rfl rfl ?_
      exact fx_reti rfl rfl rfl
  · refine am_ev.step (pc' := 1) rfl rfl ?_
    refine am_ev.ldc rfl rfl rfl rfl ?_
    refine ax_call (z := 26) (p' := 6) (as := [_, _]) rfl (Or.inr (Or.inl ⟨_, rfl⟩)) rfl rfl rfl rfl rfl rfl (S.ob rfl) rfl ((tk_26 (i := 7) (k := k) (s := s) (e := e) (by decide) S B hb hL w1 v2 v5 v6 ⟨(t0.f hb).2.1, (t0.f hb).2.2.1⟩ ⟨(t0.f hb).2.2.2.1, Int.le_trans (t0.f hb).2.2.2.2.1 (by decide)⟩).2 ((cl_l_w q0 (n := 0) (by decide)).2 (by decide))) rfl ?_
    refine fx_z_eq_T (pT := 11) rfl (by omega) rfl (by omega) ?_
    refine am_ev.step (pc' := 12) rfl rfl ?_
    refine am_ev.ldc rfl rfl rfl rfl ?_
    refine ax_call (z := 26) (p' := 17) (as := [_, _]) rfl (Or.inr (Or.inl ⟨_, rfl⟩)) rfl rfl rfl rfl rfl rfl (S.ob rfl) rfl ((tk_26 (i := 15) (k := k) (s := s) (e := e) (by decide) S B hb hL w1 v2 v5 v6 ⟨(t0.f hb).2.1, (t0.f hb).2.2.1⟩ ⟨(t0.f hb).2.2.2.1, Int.le_trans (t0.f hb).2.2.2.2.1 (by decide)⟩).2 ((cl_l_w q0 (n := 1) (by decide)).2 (by decide))) rfl ?_
    refine fx_z_eq_T (pT := 22) rfl (by omega) rfl (by omega) ?_
    refine am_ev.step (pc' := 23) rfl rfl ?_
    refine am_ev.ldc rfl rfl rfl rfl ?_
    refine ax_call (z := 26) (p' := 28) (as := [_, _]) rfl (Or.inr (Or.inl ⟨_, rfl⟩)) rfl rfl rfl rfl rfl rfl (S.ob rfl) rfl ((tk_26 (i := 4) (k := k) (s := s) (e := e) (by decide) S B hb hL w1 v2 v5 v6 ⟨(t0.f hb).2.1, (t0.f hb).2.2.1⟩ ⟨(t0.f hb).2.2.2.1, Int.le_trans (t0.f hb).2.2.2.2.1 (by decide)⟩).2 ((cl_l_w q0 (n := 2) (by decide)).2 (by decide))) rfl ?_
    refine fx_z_eq_T (pT := 33) rfl (by omega) rfl (by omega) ?_
    refine am_ev.step (pc' := 34) rfl rfl ?_
    refine am_ev.ldc rfl rfl rfl rfl ?_
    refine ax_call (z := 26) (p' := 39) (as := [_, _]) rfl (Or.inr (Or.inl ⟨_, rfl⟩)) rfl rfl rfl rfl rfl rfl (S.ob rfl) rfl ((tk_26 (i := 1) (k := k) (s := s) (e := e) (by decide) S B hb hL w1 v2 v5 v6 ⟨(t0.f hb).2.1, (t0.f hb).2.2.1⟩ ⟨(t0.f hb).2.2.2.1, Int.le_trans (t0.f hb).2.2.2.2.1 (by decide)⟩).2 ((cl_l_w q0 (n := 3) (by decide)).2 (by decide))) rfl ?_
    refine fx_z_eq_T (pT := 44) rfl (by omega) rfl (by omega) ?_
    refine am_ev.step (pc' := 45) rfl rfl ?_
    refine am_ev.ldc rfl rfl rfl rfl ?_
    refine ax_call (z := 26) (p' := 50) (as := [_, _]) rfl (Or.inr (Or.inl ⟨_, rfl⟩)) rfl rfl rfl rfl rfl rfl (S.ob rfl) rfl ((tk_26 (i := 3) (k := k) (s := s) (e := e) (by decide) S B hb hL w1 v2 v5 v6 ⟨(t0.f hb).2.1, (t0.f hb).2.2.1⟩ ⟨(t0.f hb).2.2.2.1, Int.le_trans (t0.f hb).2.2.2.2.1 (by decide)⟩).2 ((cl_l_w q0 (n := 4) (by decide)).2 (by decide))) rfl ?_
    refine fx_z_eq_T (pT := 55) rfl (by omega) rfl (by omega) ?_
    refine am_ev.step (pc' := 56) rfl rfl ?_
    refine am_ev.ldc rfl rfl rfl rfl ?_
    refine ax_call (z := 26) (p' := 61) (as := [_, _]) rfl (Or.inr (Or.inl ⟨_, rfl⟩)) rfl rfl rfl rfl rfl rfl (S.ob rfl) rfl ((tk_26 (i := 2) (k := k) (s := s) (e := e) (by decide) S B hb hL w1 v2 v5 v6 ⟨(t0.f hb).2.1, (t0.f hb).2.2.1⟩ ⟨(t0.f hb).2.2.2.1, Int.le_trans (t0.f hb).2.2.2.2.1 (by decide)⟩).2 ((cl_l_w q0 (n := 5) (by decide)).2 (by decide))) rfl ?_
    refine fx_z_eq_T (pT := 68) rfl (by omega) rfl (by omega) ?_
    refine am_ev.step (pc' := 69) rfl rfl ?_
    exact fx_reti rfl rfl rfl
end LEB
