/-! ORDER, the model's methods -/
section ORN
variable {d n c k a b p p2 t r r2 j i one part W q mn_ : Nat} {h g G H : am_H} {m v B due best tot : Int} {S0 : Int32} {x3 x4 x5 x6 x7 x8 : Value}
theorem or_243a (S : fS g) (hone : one < 10) (hj : j < 10) (hr : r < 1024) (f1 : g.2.2.2 123 one = iv p) (f2 : g.2.2.2 123 j = iv p2) (hp : p < 14) (hp2 : p2 < 14) (qb : bt (Int32.ofInt (r : Int)) j = false) : am_ev (d + 2) 243 0 (am_ent [.ref 78, iv one, iv j, iv r] 7) [] g (some (iv 1000000000), g) := by
  show am_ev (d + 2) 243 0 [.ref 78, iv ((one : Int)), iv ((j : Int)), iv ((r : Int)), am_ph, am_ph, am_ph] [] g _
  refine am_ev.step (pc' := 1) rfl rfl ?_
  refine ax_gf (p' := 4) rfl rfl (S.ob rfl) (S.rf rfl rfl) ?_
  refine am_ev.step (pc' := 5) rfl rfl ?_
  refine ax_iaload (p' := 6) rfl rfl (S.rd (k := one) rfl rfl rfl rfl rfl (by omega) f1) ?_
  refine am_ev.step (pc' := 8) (ls' := [.ref 78, iv ((one : Int)), iv ((j : Int)), iv ((r : Int)), iv ((p : Int)), am_ph, am_ph]) rfl rfl ?_
  refine am_ev.step (pc' := 9) rfl rfl ?_
  refine ax_gf (p' := 12) rfl rfl (S.ob rfl) (S.rf rfl rfl) ?_
  refine am_ev.step (pc' := 13) rfl rfl ?_
  refine ax_iaload (p' := 14) rfl rfl (S.rd (k := j) rfl rfl rfl rfl rfl (by omega) f2) ?_
  refine am_ev.step (pc' := 16) (ls' := [.ref 78, iv ((one : Int)), iv ((j : Int)), iv ((r : Int)), iv ((p : Int)), iv ((p2 : Int)), am_ph]) rfl rfl ?_
  refine am_ev.step (pc' := 17) rfl rfl ?_
  refine am_ev.step (pc' := 18) rfl rfl ?_
  refine am_ev.step (pc' := 19) rfl rfl ?_
  refine am_ev.step (pc' := 20) rfl rfl ?_
  refine am_ev.step (pc' := 21) rfl rfl ?_
  refine ax_z_eq_T (p' := 40) rfl rfl ((b_sand (by omega)).2 qb) ?_
  refine am_ev.step (pc' := 43) (st' := [iv 1000000000]) rfl rfl ?_
  exact fx_reti rfl rfl rfl
theorem or_243b (S : fS g) (hone : one < 10) (hj : j < 10) (hr : r < 1024) (f1 : g.2.2.2 123 one = iv p) (f2 : g.2.2.2 123 j = iv p2) (hp : p < 14) (hp2 : p2 < 14) (qb : bt (Int32.ofInt (r : Int)) j = true) (vt : g.2.2.2 125 (14 * p + p2) = iv t) (ht : t = 0) : am_ev (d + 2) 243 0 (am_ent [.ref 78, iv one, iv j, iv r] 7) [] g (some (iv 1000000000), g) := by
  show am_ev (d + 2) 243 0 [.ref 78, iv ((one : Int)), iv ((j : Int)), iv ((r : Int)), am_ph, am_ph, am_ph] [] g _
  refine am_ev.step (pc' := 1) rfl rfl ?_
  refine ax_gf (p' := 4) rfl rfl (S.ob rfl) (S.rf rfl rfl) ?_
  refine am_ev.step (pc' := 5) rfl rfl ?_
  refine ax_iaload (p' := 6) rfl rfl (S.rd (k := one) rfl rfl rfl rfl rfl (by omega) f1) ?_
  refine am_ev.step (pc' := 8) (ls' := [.ref 78, iv ((one : Int)), iv ((j : Int)), iv ((r : Int)), iv ((p : Int)), am_ph, am_ph]) rfl rfl ?_
  refine am_ev.step (pc' := 9) rfl rfl ?_
  refine ax_gf (p' := 12) rfl rfl (S.ob rfl) (S.rf rfl rfl) ?_
  refine am_ev.step (pc' := 13) rfl rfl ?_
  refine ax_iaload (p' := 14) rfl rfl (S.rd (k := j) rfl rfl rfl rfl rfl (by omega) f2) ?_
  refine am_ev.step (pc' := 16) (ls' := [.ref 78, iv ((one : Int)), iv ((j : Int)), iv ((r : Int)), iv ((p : Int)), iv ((p2 : Int)), am_ph]) rfl rfl ?_
  refine am_ev.step (pc' := 17) rfl rfl ?_
  refine am_ev.step (pc' := 18) rfl rfl ?_
  refine am_ev.step (pc' := 19) rfl rfl ?_
  refine am_ev.step (pc' := 20) rfl rfl ?_
  refine am_ev.step (pc' := 21) rfl rfl ?_
  refine ax_z_eq_N (p' := 24) rfl rfl (fun z => by rw [(b_sand (by omega)).1 z] at qb; cases qb) ?_
  refine am_ev.step (pc' := 25) rfl rfl ?_
  refine ax_gf (p' := 28) rfl rfl (S.ob rfl) (S.rf rfl rfl) ?_
  refine fx_bip (p' := 30) rfl rfl rfl ?_
  refine am_ev.step (pc' := 32) rfl rfl ?_
  refine fx_mul (p' := 33) (e := (14 * (p : Int))) rfl rfl (by omega) ?_
  refine am_ev.step (pc' := 35) rfl rfl ?_
  refine fx_add (p' := 36) (e := (14 * (p : Int) + (p2 : Int))) rfl rfl (by omega) ?_
  refine ax_baload (p' := 37) rfl rfl (S.rd (k := (14 * p + p2)) rfl rfl rfl rfl (by omega) (by omega) vt) ?_
  refine fx_z_ne_F (pF := 40) rfl (by omega) rfl (by omega) ?_
  refine am_ev.step (pc' := 43) (st' := [iv 1000000000]) rfl rfl ?_
  exact fx_reti rfl rfl rfl
theorem or_243c (S : fS g) (hone : one < 10) (hj : j < 10) (hr : r < 1024) (f1 : g.2.2.2 123 one = iv p) (f2 : g.2.2.2 123 j = iv p2) (hp : p < 14) (hp2 : p2 < 14) (qb : bt (Int32.ofInt (r : Int)) j = true) (vt : g.2.2.2 125 (14 * p + p2) = iv t) (ht : t = 1) (hA : (Int32.ofInt (r : Int) &&& ((Int32.ofInt 1 <<< (Int32.ofInt (j : Int) &&& 31)) ^^^ Int32.ofInt (-1))) = Int32.ofInt (r2 : Int)) (hr2 : r2 < 1024) (vB : g.2.2.2 124 (10 * r2 + j) = iv B) (bB : 0 ≤ B ∧ B ≤ 1000000000) (hB : 1000000000 ≤ B) : am_ev (d + 2) 243 0 (am_ent [.ref 78, iv one, iv j, iv r] 7) [] g (some (iv 1000000000), g) := by
  show am_ev (d + 2) 243 0 [.ref 78, iv ((one : Int)), iv ((j : Int)), iv ((r : Int)), am_ph, am_ph, am_ph] [] g _
  refine am_ev.step (pc' := 1) rfl rfl ?_
  refine ax_gf (p' := 4) rfl rfl (S.ob rfl) (S.rf rfl rfl) ?_
  refine am_ev.step (pc' := 5) rfl rfl ?_
  refine ax_iaload (p' := 6) rfl rfl (S.rd (k := one) rfl rfl rfl rfl rfl (by omega) f1) ?_
  refine am_ev.step (pc' := 8) (ls' := [.ref 78, iv ((one : Int)), iv ((j : Int)), iv ((r : Int)), iv ((p : Int)), am_ph, am_ph]) rfl rfl ?_
  refine am_ev.step (pc' := 9) rfl rfl ?_
  refine ax_gf (p' := 12) rfl rfl (S.ob rfl) (S.rf rfl rfl) ?_
  refine am_ev.step (pc' := 13) rfl rfl ?_
  refine ax_iaload (p' := 14) rfl rfl (S.rd (k := j) rfl rfl rfl rfl rfl (by omega) f2) ?_
  refine am_ev.step (pc' := 16) (ls' := [.ref 78, iv ((one : Int)), iv ((j : Int)), iv ((r : Int)), iv ((p : Int)), iv ((p2 : Int)), am_ph]) rfl rfl ?_
  refine am_ev.step (pc' := 17) rfl rfl ?_
  refine am_ev.step (pc' := 18) rfl rfl ?_
  refine am_ev.step (pc' := 19) rfl rfl ?_
  refine am_ev.step (pc' := 20) rfl rfl ?_
  refine am_ev.step (pc' := 21) rfl rfl ?_
  refine ax_z_eq_N (p' := 24) rfl rfl (fun z => by rw [(b_sand (by omega)).1 z] at qb; cases qb) ?_
  refine am_ev.step (pc' := 25) rfl rfl ?_
  refine ax_gf (p' := 28) rfl rfl (S.ob rfl) (S.rf rfl rfl) ?_
  refine fx_bip (p' := 30) rfl rfl rfl ?_
  refine am_ev.step (pc' := 32) rfl rfl ?_
  refine fx_mul (p' := 33) (e := (14 * (p : Int))) rfl rfl (by omega) ?_
  refine am_ev.step (pc' := 35) rfl rfl ?_
  refine fx_add (p' := 36) (e := (14 * (p : Int) + (p2 : Int))) rfl rfl (by omega) ?_
  refine ax_baload (p' := 37) rfl rfl (S.rd (k := (14 * p + p2)) rfl rfl rfl rfl (by omega) (by omega) vt) ?_
  refine fx_z_ne_T (pT := 44) rfl (by omega) rfl (by omega) ?_
  refine am_ev.step (pc' := 45) rfl rfl ?_
  refine ax_gf (p' := 48) rfl rfl (S.ob rfl) (S.rf rfl rfl) ?_
  refine fx_bip (p' := 50) rfl rfl rfl ?_
  refine am_ev.step (pc' := 51) rfl rfl ?_
  refine am_ev.step (pc' := 52) rfl rfl ?_
  refine am_ev.step (pc' := 53) rfl rfl ?_
  refine am_ev.step (pc' := 54) rfl rfl ?_
  refine am_ev.step (pc' := 55) rfl rfl ?_
  refine am_ev.step (pc' := 56) rfl rfl ?_
  refine am_ev.step (pc' := 57) rfl rfl ?_
  refine ax_top hA ?_
  refine fx_mul (p' := 58) (e := (10 * (r2 : Int))) rfl rfl (by omega) ?_
  refine am_ev.step (pc' := 59) rfl rfl ?_
  refine fx_add (p' := 60) (e := (10 * (r2 : Int) + (j : Int))) rfl rfl (by omega) ?_
  refine ax_iaload (p' := 61) rfl rfl (S.rd (k := (10 * r2 + j)) rfl rfl rfl rfl (by omega) (by omega) vB) ?_
  refine am_ev.step (pc' := 63) (ls' := [.ref 78, iv ((one : Int)), iv ((j : Int)), iv ((r : Int)), iv ((p : Int)), iv ((p2 : Int)), iv (B)]) rfl rfl ?_
  refine am_ev.step (pc' := 65) rfl rfl ?_
  refine am_ev.step (pc' := 68) (st' := [iv 1000000000, iv (B)]) rfl rfl ?_
  refine fx_c_lt_F (pF := 71) rfl (by omega) (by omega) rfl (by omega) ?_
  refine am_ev.step (pc' := 74) (st' := [iv 1000000000]) rfl rfl ?_
  refine am_ev.step (pc' := 88) rfl rfl ?_
  exact fx_reti rfl rfl rfl
theorem or_243d (S : fS g) (hone : one < 10) (hj : j < 10) (hr : r < 1024) (f1 : g.2.2.2 123 one = iv p) (f2 : g.2.2.2 123 j = iv p2) (hp : p < 14) (hp2 : p2 < 14) (qb : bt (Int32.ofInt (r : Int)) j = true) (vt : g.2.2.2 125 (14 * p + p2) = iv t) (ht : t = 1) (hA : (Int32.ofInt (r : Int) &&& ((Int32.ofInt 1 <<< (Int32.ofInt (j : Int) &&& 31)) ^^^ Int32.ofInt (-1))) = Int32.ofInt (r2 : Int)) (hr2 : r2 < 1024) (vB : g.2.2.2 124 (10 * r2 + j) = iv B) (bB : 0 ≤ B ∧ B ≤ 1000000000) (hB : B < 1000000000) (H244 : am_ev (d + 1) 244 0 (am_ent [.ref 78, iv p, iv p2] 3) [] g (some (iv m), g)) (bm : 0 ≤ m ∧ m ≤ 2100) : am_ev (d + 2) 243 0 (am_ent [.ref 78, iv one, iv j, iv r] 7) [] g (some (iv (m + B)), g) := by
  show am_ev (d + 2) 243 0 [.ref 78, iv ((one : Int)), iv ((j : Int)), iv ((r : Int)), am_ph, am_ph, am_ph] [] g _
  refine am_ev.step (pc' := 1) rfl rfl ?_
  refine ax_gf (p' := 4) rfl rfl (S.ob rfl) (S.rf rfl rfl) ?_
  refine am_ev.step (pc' := 5) rfl rfl ?_
  refine ax_iaload (p' := 6) rfl rfl (S.rd (k := one) rfl rfl rfl rfl rfl (by omega) f1) ?_
  refine am_ev.step (pc' := 8) (ls' := [.ref 78, iv ((one : Int)), iv ((j : Int)), iv ((r : Int)), iv ((p : Int)), am_ph, am_ph]) rfl rfl ?_
  refine am_ev.step (pc' := 9) rfl rfl ?_
  refine ax_gf (p' := 12) rfl rfl (S.ob rfl) (S.rf rfl rfl) ?_
  refine am_ev.step (pc' := 13) rfl rfl ?_
  refine ax_iaload (p' := 14) rfl rfl (S.rd (k := j) rfl rfl rfl rfl rfl (by omega) f2) ?_
  refine am_ev.step (pc' := 16) (ls' := [.ref 78, iv ((one : Int)), iv ((j : Int)), iv ((r : Int)), iv ((p : Int)), iv ((p2 : Int)), am_ph]) rfl rfl ?_
  refine am_ev.step (pc' := 17) rfl rfl ?_
  refine am_ev.step (pc' := 18) rfl rfl ?_
  refine am_ev.step (pc' := 19) rfl rfl ?_
  refine am_ev.step (pc' := 20) rfl rfl ?_
  refine am_ev.step (pc' := 21) rfl rfl ?_
  refine ax_z_eq_N (p' := 24) rfl rfl (fun z => by rw [(b_sand (by omega)).1 z] at qb; cases qb) ?_
  refine am_ev.step (pc' := 25) rfl rfl ?_
  refine ax_gf (p' := 28) rfl rfl (S.ob rfl) (S.rf rfl rfl) ?_
  refine fx_bip (p' := 30) rfl rfl rfl ?_
  refine am_ev.step (pc' := 32) rfl rfl ?_
  refine fx_mul (p' := 33) (e := (14 * (p : Int))) rfl rfl (by omega) ?_
  refine am_ev.step (pc' := 35) rfl rfl ?_
  refine fx_add (p' := 36) (e := (14 * (p : Int) + (p2 : Int))) rfl rfl (by omega) ?_
  refine ax_baload (p' := 37) rfl rfl (S.rd (k := (14 * p + p2)) rfl rfl rfl rfl (by omega) (by omega) vt) ?_
  refine fx_z_ne_T (pT := 44) rfl (by omega) rfl (by omega) ?_
  refine am_ev.step (pc' := 45) rfl rfl ?_
  refine ax_gf (p' := 48) rfl rfl (S.ob rfl) (S.rf rfl rfl) ?_
  refine fx_bip (p' := 50) rfl rfl rfl ?_
  refine am_ev.step (pc' := 51) rfl rfl ?_
  refine am_ev.step (pc' := 52) rfl rfl ?_
  refine am_ev.step (pc' := 53) rfl rfl ?_
  refine am_ev.step (pc' := 54) rfl rfl ?_
  refine am_ev.step (pc' := 55) rfl rfl ?_
  refine am_ev.step (pc' := 56) rfl rfl ?_
  refine am_ev.step (pc' := 57) rfl rfl ?_
  refine ax_top hA ?_
  refine fx_mul (p' := 58) (e := (10 * (r2 : Int))) rfl rfl (by omega) ?_
  refine am_ev.step (pc' := 59) rfl rfl ?_
  refine fx_add (p' := 60) (e := (10 * (r2 : Int) + (j : Int))) rfl rfl (by omega) ?_
  refine ax_iaload (p' := 61) rfl rfl (S.rd (k := (10 * r2 + j)) rfl rfl rfl rfl (by omega) (by omega) vB) ?_
  refine am_ev.step (pc' := 63) (ls' := [.ref 78, iv ((one : Int)), iv ((j : Int)), iv ((r : Int)), iv ((p : Int)), iv ((p2 : Int)), iv (B)]) rfl rfl ?_
  refine am_ev.step (pc' := 65) rfl rfl ?_
  refine am_ev.step (pc' := 68) (st' := [iv 1000000000, iv (B)]) rfl rfl ?_
  refine fx_c_lt_T (pT := 77) rfl (by omega) (by omega) rfl (by omega) ?_
  refine am_ev.step (pc' := 78) rfl rfl ?_
  refine am_ev.step (pc' := 80) rfl rfl ?_
  refine am_ev.step (pc' := 82) rfl rfl ?_
  refine ax_call (z := 244) (p' := 85) (as := [_, _, _]) rfl (Or.inr (Or.inl ⟨_, rfl⟩)) rfl rfl rfl rfl rfl rfl (S.ob rfl) rfl H244 rfl ?_
  refine am_ev.step (pc' := 87) rfl rfl ?_
  refine fx_add (p' := 88) (e := (m + B)) rfl rfl (by omega) ?_
  exact fx_reti rfl rfl rfl
theorem or_240s {x : Option Value × am_H} (q9 : am_ev (d + 9) 240 2 [.ref 78, iv 0, am_ph] [] g x) : am_ev (d + 9) 240 0 (am_ent [.ref 78] 3) [] g x := by
  show am_ev (d + 9) 240 0 [.ref 78, am_ph, am_ph] [] g _
  refine am_ev.step (pc' := 1) rfl rfl ?_
  refine am_ev.step (pc' := 2) (ls' := [.ref 78, iv 0, am_ph]) rfl rfl ?_
  exact q9
theorem or_240e (S : fS g) (v53 : g.2.2.2 78 53 = iv n) (hn : n ≤ 14) (ha : a = n) : am_ev (d + 9) 240 2 [.ref 78, iv ((a : Int)), x3] [] g (none, g) := by
  refine am_ev.step (pc' := 3) rfl rfl ?_
  refine am_ev.step (pc' := 4) rfl rfl ?_
  refine ax_gf (p' := 7) rfl rfl (S.ob rfl) v53 ?_
  refine fx_c_ge_T (pT := 62) rfl (by omega) (by omega) rfl (by omega) ?_
  exact am_ev.retv rfl rfl
theorem or_240i (S : fS g) (v53 : g.2.2.2 78 53 = iv n) (hn : n ≤ 14) (ha : a < n) {x : Option Value × am_H} (q9 : am_ev (d + 9) 240 12 [.ref 78, iv ((a : Int)), iv 0] [] g x) : am_ev (d + 9) 240 2 [.ref 78, iv ((a : Int)), x3] [] g x := by
  refine am_ev.step (pc' := 3) rfl rfl ?_
  refine am_ev.step (pc' := 4) rfl rfl ?_
  refine ax_gf (p' := 7) rfl rfl (S.ob rfl) v53 ?_
  refine fx_c_ge_F (pF := 10) rfl (by omega) (by omega) rfl (by omega) ?_
  refine am_ev.step (pc' := 11) rfl rfl ?_
  refine am_ev.step (pc' := 12) (ls' := [.ref 78, iv ((a : Int)), iv 0]) rfl rfl ?_
  exact q9
theorem or_240j (S : fS g) (v53 : g.2.2.2 78 53 = iv n) (hn : n ≤ 14) (hb : b = n) {x : Option Value × am_H} (q9 : am_ev (d + 9) 240 2 [.ref 78, iv ((a + 1 : Nat) : Int), iv ((b : Int))] [] g x) : am_ev (d + 9) 240 12 [.ref 78, iv ((a : Int)), iv ((b : Int))] [] g x := by
  refine am_ev.step (pc' := 13) rfl rfl ?_
  refine am_ev.step (pc' := 14) rfl rfl ?_
  refine ax_gf (p' := 17) rfl rfl (S.ob rfl) v53 ?_
  refine fx_c_ge_T (pT := 56) rfl (by omega) (by omega) rfl (by omega) ?_
  refine fx_inc (p' := 59) (e := ((a : Int) + 1)) (ls' := [.ref 78, iv ((a : Int) + 1), iv ((b : Int))]) rfl rfl rfl (by omega) rfl ?_
  refine am_ev.step (pc' := 2) rfl rfl ?_
  exact (rr_n ▸ q9)
theorem or_240d (S : fS g) (v53 : g.2.2.2 78 53 = iv n) (hn : n ≤ 14) (ha : a < n) (hb : b < n) (hab : a = b) {x : Option Value × am_H} (q9 : am_ev (d + 9) 240 12 [.ref 78, iv ((a : Int)), iv ((b + 1 : Nat) : Int)] [] (am_put g 125 (14 * a + b) (iv 0)) x) : am_ev (d + 9) 240 12 [.ref 78, iv ((a : Int)), iv ((b : Int))] [] g x := by
  refine am_ev.step (pc' := 13) rfl rfl ?_
  refine am_ev.step (pc' := 14) rfl rfl ?_
  refine ax_gf (p' := 17) rfl rfl (S.ob rfl) v53 ?_
  refine fx_c_ge_F (pF := 20) rfl (by omega) (by omega) rfl (by omega) ?_
  refine am_ev.step (pc' := 21) rfl rfl ?_
  refine ax_gf (p' := 24) rfl rfl (S.ob rfl) (S.rf rfl rfl) ?_
  refine fx_bip (p' := 26) rfl rfl rfl ?_
  refine am_ev.step (pc' := 27) rfl rfl ?_
  refine fx_mul (p' := 28) (e := (14 * (a : Int))) rfl rfl (by omega) ?_
  refine am_ev.step (pc' := 29) rfl rfl ?_
  refine fx_add (p' := 30) (e := (14 * (a : Int) + (b : Int))) rfl rfl (by omega) ?_
  refine am_ev.step (pc' := 31) rfl rfl ?_
  refine am_ev.step (pc' := 32) rfl rfl ?_
  refine fx_c_eq_T (pT := 48) rfl (by omega) (by omega) rfl (by omega) ?_
  refine am_ev.step (pc' := 49) rfl rfl ?_
  refine ax_bas2 (p' := 50) rfl rfl (S.wr (k := (14 * a + b)) rfl rfl rfl (by omega) (by omega)) (S.sb rfl rfl) (by decide) ?_
  refine fx_inc (p' := 53) (e := ((b : Int) + 1)) (ls' := [.ref 78, iv ((a : Int)), iv ((b : Int) + 1)]) rfl rfl rfl (by omega) rfl ?_
  refine am_ev.step (pc' := 12) rfl rfl ?_
  exact (rr_n ▸ q9)
theorem or_240n (S : fS g) (v53 : g.2.2.2 78 53 = iv n) (hn : n ≤ 14) (ha : a < n) (hb : b < n) (hab : a ≠ b) (H241 : am_ev (d + 8) 241 0 (am_ent [.ref 78, iv a, iv b] 5) [] g (some (iv 0), g)) {x : Option Value × am_H} (q9 : am_ev (d + 9) 240 12 [.ref 78, iv ((a : Int)), iv ((b + 1 : Nat) : Int)] [] (am_put g 125 (14 * a + b) (iv 0)) x) : am_ev (d + 9) 240 12 [.ref 78, iv ((a : Int)), iv ((b : Int))] [] g x := by
  refine am_ev.step (pc' := 13) rfl rfl ?_
  refine am_ev.step (pc' := 14) rfl rfl ?_
  refine ax_gf (p' := 17) rfl rfl (S.ob rfl) v53 ?_
  refine fx_c_ge_F (pF := 20) rfl (by omega) (by omega) rfl (by omega) ?_
  refine am_ev.step (pc' := 21) rfl rfl ?_
  refine ax_gf (p' := 24) rfl rfl (S.ob rfl) (S.rf rfl rfl) ?_
  refine fx_bip (p' := 26) rfl rfl rfl ?_
  refine am_ev.step (pc' := 27) rfl rfl ?_
  refine fx_mul (p' := 28) (e := (14 * (a : Int))) rfl rfl (by omega) ?_
  refine am_ev.step (pc' := 29) rfl rfl ?_
  refine fx_add (p' := 30) (e := (14 * (a : Int) + (b : Int))) rfl rfl (by omega) ?_
  refine am_ev.step (pc' := 31) rfl rfl ?_
  refine am_ev.step (pc' := 32) rfl rfl ?_
  refine fx_c_eq_F (pF := 35) rfl (by omega) (by omega) rfl (by omega) ?_
  refine am_ev.step (pc' := 36) rfl rfl ?_
  refine am_ev.step (pc' := 37) rfl rfl ?_
  refine am_ev.step (pc' := 38) rfl rfl ?_
  refine ax_call (z := 241) (p' := 41) (as := [_, _, _]) rfl (Or.inr (Or.inl ⟨_, rfl⟩)) rfl rfl rfl rfl rfl rfl (S.ob rfl) rfl H241 rfl ?_
  refine fx_z_eq_T (pT := 48) rfl (by omega) rfl (by omega) ?_
  refine am_ev.step (pc' := 49) rfl rfl ?_
  refine ax_bas2 (p' := 50) rfl rfl (S.wr (k := (14 * a + b)) rfl rfl rfl (by omega) (by omega)) (S.sb rfl rfl) (by decide) ?_
  refine fx_inc (p' := 53) (e := ((b : Int) + 1)) (ls' := [.ref 78, iv ((a : Int)), iv ((b : Int) + 1)]) rfl rfl rfl (by omega) rfl ?_
  refine am_ev.step (pc' := 12) rfl rfl ?_
  exact (rr_n ▸ q9)
theorem or_240y (S : fS g) (v53 : g.2.2.2 78 53 = iv n) (hn : n ≤ 14) (ha : a < n) (hb : b < n) (hab : a ≠ b) (H241 : am_ev (d + 8) 241 0 (am_ent [.ref 78, iv a, iv b] 5) [] g (some (iv 1), g)) {x : Option Value × am_H} (q9 : am_ev (d + 9) 240 12 [.ref 78, iv ((a : Int)), iv ((b + 1 : Nat) : Int)] [] (am_put g 125 (14 * a + b) (iv 1)) x) : am_ev (d + 9) 240 12 [.ref 78, iv ((a : Int)), iv ((b : Int))] [] g x := by
  refine am_ev.step (pc' := 13) rfl rfl ?_
  refine am_ev.step (pc' := 14) rfl rfl ?_
  refine ax_gf (p' := 17) rfl rfl (S.ob rfl) v53 ?_
  refine fx_c_ge_F (pF := 20) rfl (by omega) (by omega) rfl (by omega) ?_
  refine am_ev.step (pc' := 21) rfl rfl ?_
  refine ax_gf (p' := 24) rfl rfl (S.ob rfl) (S.rf rfl rfl) ?_
  refine fx_bip (p' := 26) rfl rfl rfl ?_
  refine am_ev.step (pc' := 27) rfl rfl ?_
  refine fx_mul (p' := 28) (e := (14 * (a : Int))) rfl rfl (by omega) ?_
  refine am_ev.step (pc' := 29) rfl rfl ?_
  refine fx_add (p' := 30) (e := (14 * (a : Int) + (b : Int))) rfl rfl (by omega) ?_
  refine am_ev.step (pc' := 31) rfl rfl ?_
  refine am_ev.step (pc' := 32) rfl rfl ?_
  refine fx_c_eq_F (pF := 35) rfl (by omega) (by omega) rfl (by omega) ?_
  refine am_ev.step (pc' := 36) rfl rfl ?_
  refine am_ev.step (pc' := 37) rfl rfl ?_
  refine am_ev.step (pc' := 38) rfl rfl ?_
  refine ax_call (z := 241) (p' := 41) (as := [_, _, _]) rfl (Or.inr (Or.inl ⟨_, rfl⟩)) rfl rfl rfl rfl rfl rfl (S.ob rfl) rfl H241 rfl ?_
  refine fx_z_eq_F (pF := 44) rfl (by omega) rfl (by omega) ?_
  refine am_ev.step (pc' := 45) rfl rfl ?_
  refine am_ev.step (pc' := 49) rfl rfl ?_
  refine ax_bas2 (p' := 50) rfl rfl (S.wr (k := (14 * a + b)) rfl rfl rfl (by omega) (by omega)) (S.sb rfl rfl) (by decide) ?_
  refine fx_inc (p' := 53) (e := ((b : Int) + 1)) (ls' := [.ref 78, iv ((a : Int)), iv ((b : Int) + 1)]) rfl rfl rfl (by omega) rfl ?_
  refine am_ev.step (pc' := 12) rfl rfl ?_
  exact (rr_n ▸ q9)
theorem or_239a (S : fS g) (v53 : g.2.2.2 78 53 = iv n) (hn : n ≤ 14) (H165 : am_ev (d + 9) 165 0 (am_ent [.long S0.toInt64, .long (Int64.ofNat 1), .long (wkL n)] 6) [] g (some (iv 0), g)) : am_ev (d + 10) 239 0 (am_ent [.ref 78, .int S0] 9) [] g (some (iv (-2)), g) := by
  show am_ev (d + 10) 239 0 [.ref 78, .int S0, am_ph, am_ph, am_ph, am_ph, am_ph, am_ph, am_ph] [] g _
  refine am_ev.step (pc' := 1) rfl rfl ?_
  refine am_ev.step (pc' := 2) rfl rfl ?_
  refine am_ev.step (pc' := 3) rfl rfl ?_
  refine am_ev.step (pc' := 4) rfl rfl ?_
  refine am_ev.step (pc' := 5) rfl rfl ?_
  refine ax_gf (p' := 8) rfl rfl (S.ob rfl) v53 ?_
  refine am_ev.step (pc' := 9) rfl rfl ?_
  refine am_ev.step (pc' := 10) rfl rfl ?_
  refine am_ev.step (pc' := 11) rfl rfl ?_
  refine ax_call (z := 165) (p' := 14) (as := [_, _, _]) rfl (Or.inl ⟨_, rfl⟩) rfl rfl rfl rfl rfl rfl rfl rfl H165 rfl ?_
  refine fx_z_ne_F (pF := 17) rfl (by omega) rfl (by omega) ?_
  refine fx_bip (p' := 19) rfl rfl rfl ?_
  exact fx_reti rfl rfl rfl
theorem or_239b (S : fS g) (v53 : g.2.2.2 78 53 = iv n) (hn : n ≤ 14) (H165 : am_ev (d + 9) 165 0 (am_ent [.long S0.toInt64, .long (Int64.ofNat 1), .long (wkL n)] 6) [] g (some (iv 1), g)) {x : Option Value × am_H} (q9 : am_ev (d + 10) 239 24 [.ref 78, .int S0, iv 0, iv 0, am_ph, am_ph, am_ph, am_ph, am_ph] [] g x) : am_ev (d + 10) 239 0 (am_ent [.ref 78, .int S0] 9) [] g x := by
  show am_ev (d + 10) 239 0 [.ref 78, .int S0, am_ph, am_ph, am_ph, am_ph, am_ph, am_ph, am_ph] [] g _
  refine am_ev.step (pc' := 1) rfl rfl ?_
  refine am_ev.step (pc' := 2) rfl rfl ?_
  refine am_ev.step (pc' := 3) rfl rfl ?_
  refine am_ev.step (pc' := 4) rfl rfl ?_
  refine am_ev.step (pc' := 5) rfl rfl ?_
  refine ax_gf (p' := 8) rfl rfl (S.ob rfl) v53 ?_
  refine am_ev.step (pc' := 9) rfl rfl ?_
  refine am_ev.step (pc' := 10) rfl rfl ?_
  refine am_ev.step (pc' := 11) rfl rfl ?_
  refine ax_call (z := 165) (p' := 14) (as := [_, _, _]) rfl (Or.inl ⟨_, rfl⟩) rfl rfl rfl rfl rfl rfl rfl rfl H165 rfl ?_
  refine fx_z_ne_T (pT := 20) rfl (by omega) rfl (by omega) ?_
  refine am_ev.step (pc' := 21) rfl rfl ?_
  refine am_ev.step (pc' := 22) (ls' := [.ref 78, .int S0, iv 0, am_ph, am_ph, am_ph, am_ph, am_ph, am_ph]) rfl rfl ?_
  refine am_ev.step (pc' := 23) rfl rfl ?_
  refine am_ev.step (pc' := 24) (ls' := [.ref 78, .int S0, iv 0, iv 0, am_ph, am_ph, am_ph, am_ph, am_ph]) rfl rfl ?_
  exact q9
theorem or_239c (S : fS g) (v53 : g.2.2.2 78 53 = iv n) (hn : n ≤ 14) (hk : k ≤ 10) (hc : c = n) {x : Option Value × am_H} (q9 : am_ev (d + 10) 239 68 [.ref 78, .int S0, iv ((k : Int)), iv ((c : Int)), x4, x5, x6, x7, x8] [] g x) : am_ev (d + 10) 239 24 [.ref 78, .int S0, iv ((k : Int)), iv ((c : Int)), x4, x5, x6, x7, x8] [] g x := by
  refine am_ev.step (pc' := 25) rfl rfl ?_
  refine am_ev.step (pc' := 26) rfl rfl ?_
  refine ax_gf (p' := 29) rfl rfl (S.ob rfl) v53 ?_
  refine fx_c_ge_T (pT := 68) rfl (by omega) (by omega) rfl (by omega) ?_
  exact q9
theorem or_239d (S : fS g) (v53 : g.2.2.2 78 53 = iv n) (hn : n ≤ 14) (hk : k ≤ 10) (hc : c < n) (qb : bt S0 c = false) {x : Option Value × am_H} (q9 : am_ev (d + 10) 239 24 [.ref 78, .int S0, iv ((k : Int)), iv ((c + 1 : Nat) : Int), x4, x5, x6, x7, x8] [] g x) : am_ev (d + 10) 239 24 [.ref 78, .int S0, iv ((k : Int)), iv ((c : Int)), x4, x5, x6, x7, x8] [] g x := by
  refine am_ev.step (pc' := 25) rfl rfl ?_
  refine am_ev.step (pc' := 26) rfl rfl ?_
  refine ax_gf (p' := 29) rfl rfl (S.ob rfl) v53 ?_
  refine fx_c_ge_F (pF := 32) rfl (by omega) (by omega) rfl (by omega) ?_
  refine am_ev.step (pc' := 33) rfl rfl ?_
  refine am_ev.step (pc' := 34) rfl rfl ?_
  refine am_ev.step (pc' := 35) rfl rfl ?_
  refine am_ev.step (pc' := 36) rfl rfl ?_
  refine am_ev.step (pc' := 37) rfl rfl ?_
  refine ax_z_ne_N (p' := 40) rfl rfl ((b_sand (by omega)).2 qb) ?_
  refine am_ev.step (pc' := 62) rfl rfl ?_
  refine fx_inc (p' := 65) (e := ((c : Int) + 1)) (ls' := [.ref 78, .int S0, iv ((k : Int)), iv ((c : Int) + 1), x4, x5, x6, x7, x8]) rfl rfl rfl (by omega) rfl ?_
  refine am_ev.step (pc' := 24) rfl rfl ?_
  exact (rr_n ▸ q9)
theorem or_239e (S : fS g) (v53 : g.2.2.2 78 53 = iv n) (hn : n ≤ 14) (hk : k ≤ 10) (hc : c < n) (qb : bt S0 c = true) (hk1 : k = 10) : am_ev (d + 10) 239 24 [.ref 78, .int S0, iv ((k : Int)), iv ((c : Int)), x4, x5, x6, x7, x8] [] g (some (iv (-2)), g) := by
  refine am_ev.step (pc' := 25) rfl rfl ?_
  refine am_ev.step (pc' := 26) rfl rfl ?_
  refine ax_gf (p' := 29) rfl rfl (S.ob rfl) v53 ?_
  refine fx_c_ge_F (pF := 32) rfl (by omega) (by omega) rfl (by omega) ?_
  refine am_ev.step (pc' := 33) rfl rfl ?_
  refine am_ev.step (pc' := 34) rfl rfl ?_
  refine am_ev.step (pc' := 35) rfl rfl ?_
  refine am_ev.step (pc' := 36) rfl rfl ?_
  refine am_ev.step (pc' := 37) rfl rfl ?_
  refine ax_z_ne_T (p' := 43) rfl rfl (fun z => by rw [(b_sand (by omega)).1 z] at qb; cases qb) ?_
  refine am_ev.step (pc' := 44) rfl rfl ?_
  refine fx_bip (p' := 46) rfl rfl rfl ?_
  refine fx_c_ne_F (pF := 49) rfl (by omega) (by omega) rfl (by omega) ?_
  refine fx_bip (p' := 51) rfl rfl rfl ?_
  exact fx_reti rfl rfl rfl
theorem or_239f (S : fS g) (v53 : g.2.2.2 78 53 = iv n) (hn : n ≤ 14) (hk : k ≤ 10) (hc : c < n) (qb : bt S0 c = true) (hk1 : k < 10) {x : Option Value × am_H} (q9 : am_ev (d + 10) 239 24 [.ref 78, .int S0, iv ((k : Int) + 1), iv ((c : Int) + 1), x4, x5, x6, x7, x8] [] (am_put g 123 k (iv ((c : Int)))) x) : am_ev (d + 10) 239 24 [.ref 78, .int S0, iv ((k : Int)), iv ((c : Int)), x4, x5, x6, x7, x8] [] g x := by
  refine am_ev.step (pc' := 25) rfl rfl ?_
  refine am_ev.step (pc' := 26) rfl rfl ?_
  refine ax_gf (p' := 29) rfl rfl (S.ob rfl) v53 ?_
  refine fx_c_ge_F (pF := 32) rfl (by omega) (by omega) rfl (by omega) ?_
  refine am_ev.step (pc' := 33) rfl rfl ?_
  refine am_ev.step (pc' := 34) rfl rfl ?_
  refine am_ev.step (pc' := 35) rfl rfl ?_
  refine am_ev.step (pc' := 36) rfl rfl ?_
  refine am_ev.step (pc' := 37) rfl rfl ?_
  refine ax_z_ne_T (p' := 43) rfl rfl (fun z => by rw [(b_sand (by omega)).1 z] at qb; cases qb) ?_
  refine am_ev.step (pc' := 44) rfl rfl ?_
  refine fx_bip (p' := 46) rfl rfl rfl ?_
  refine fx_c_ne_T (pT := 52) rfl (by omega) (by omega) rfl (by omega) ?_
  refine am_ev.step (pc' := 53) rfl rfl ?_
  refine ax_gf (p' := 56) rfl rfl (S.ob rfl) (S.rf rfl rfl) ?_
  refine am_ev.step (pc' := 57) rfl rfl ?_
  refine am_ev.step (pc' := 58) rfl rfl ?_
  refine ax_iastore (p' := 59) rfl rfl (S.wr (k := k) rfl rfl rfl rfl (by omega)) ?_
  refine fx_inc (p' := 62) (e := ((k : Int) + 1)) (ls' := [.ref 78, .int S0, iv ((k : Int) + 1), iv ((c : Int)), x4, x5, x6, x7, x8]) rfl rfl rfl (by omega) rfl ?_
  refine fx_inc (p' := 65) (e := ((c : Int) + 1)) (ls' := [.ref 78, .int S0, iv ((k : Int) + 1), iv ((c : Int) + 1), x4, x5, x6, x7, x8]) rfl rfl rfl (by omega) rfl ?_
  refine am_ev.step (pc' := 24) rfl rfl ?_
  exact q9
theorem or_239g (S : fS g) (H235 : am_ev (d + 9) 235 0 (am_ent [.ref 78] 3) [] g (none, G)) (SG : fS G) {x : Option Value × am_H} (q9 : am_ev (d + 10) 239 74 [.ref 78, .int S0, iv ((k : Int)), iv 0, x4, x5, x6, x7, x8] [] G x) : am_ev (d + 10) 239 68 [.ref 78, .int S0, iv ((k : Int)), iv ((c : Int)), x4, x5, x6, x7, x8] [] g x := by
  refine am_ev.step (pc' := 69) rfl rfl ?_
  refine ax_call (z := 235) (p' := 72) (as := [_]) rfl (Or.inr (Or.inl ⟨_, rfl⟩)) rfl rfl rfl rfl rfl rfl (S.ob rfl) rfl H235 rfl ?_
  refine am_ev.step (pc' := 73) rfl rfl ?_
  refine am_ev.step (pc' := 74) (ls' := [.ref 78, .int S0, iv ((k : Int)), iv 0, x4, x5, x6, x7, x8]) rfl rfl ?_
  exact q9
theorem or_239h (S : fS g) (hk : k ≤ 10) (hi : i = k) {x : Option Value × am_H} (q9 : am_ev (d + 10) 239 102 [.ref 78, .int S0, iv ((k : Int)), iv ((i : Int)), x4, x5, x6, x7, x8] [] g x) : am_ev (d + 10) 239 74 [.ref 78, .int S0, iv ((k : Int)), iv ((i : Int)), x4, x5, x6, x7, x8] [] g x := by
  refine am_ev.step (pc' := 75) rfl rfl ?_
  refine am_ev.step (pc' := 76) rfl rfl ?_
  refine fx_c_ge_T (pT := 102) rfl (by omega) (by omega) rfl (by omega) ?_
  exact q9
theorem or_239i (S : fS g) (hk : k ≤ 10) (hi : i < k) (f1 : g.2.2.2 123 i = iv p) (hp : p < 14) (vt : g.2.2.2 119 p = iv t) (ht : t = 0) : am_ev (d + 10) 239 74 [.ref 78, .int S0, iv ((k : Int)), iv ((i : Int)), x4, x5, x6, x7, x8] [] g (some (iv (-4)), g) := by
  refine am_ev.step (pc' := 75) rfl rfl ?_
  refine am_ev.step (pc' := 76) rfl rfl ?_
  refine fx_c_ge_F (pF := 79) rfl (by omega) (by omega) rfl (by omega) ?_
  refine am_ev.step (pc' := 80) rfl rfl ?_
  refine ax_gf (p' := 83) rfl rfl (S.ob rfl) (S.rf rfl rfl) ?_
  refine am_ev.step (pc' := 84) rfl rfl ?_
  refine ax_gf (p' := 87) rfl rfl (S.ob rfl) (S.rf rfl rfl) ?_
  refine am_ev.step (pc' := 88) rfl rfl ?_
  refine ax_iaload (p' := 89) rfl rfl (S.rd (k := i) rfl rfl rfl rfl rfl (by omega) f1) ?_
  refine ax_baload (p' := 90) rfl rfl (S.rd (k := p) rfl rfl rfl rfl rfl (by omega) vt) ?_
  refine fx_z_ne_F (pF := 93) rfl (by omega) rfl (by omega) ?_
  refine fx_bip (p' := 95) rfl rfl rfl ?_
  exact fx_reti rfl rfl rfl
theorem or_239j (S : fS g) (hk : k ≤ 10) (hi : i < k) (f1 : g.2.2.2 123 i = iv p) (hp : p < 14) (vt : g.2.2.2 119 p = iv t) (ht : t = 1) {x : Option Value × am_H} (q9 : am_ev (d + 10) 239 74 [.ref 78, .int S0, iv ((k : Int)), iv ((i + 1 : Nat) : Int), x4, x5, x6, x7, x8] [] g x) : am_ev (d + 10) 239 74 [.ref 78, .int S0, iv ((k : Int)), iv ((i : Int)), x4, x5, x6, x7, x8] [] g x := by
  refine am_ev.step (pc' := 75) rfl rfl ?_
  refine am_ev.step (pc' := 76) rfl rfl ?_
  refine fx_c_ge_F (pF := 79) rfl (by omega) (by omega) rfl (by omega) ?_
  refine am_ev.step (pc' := 80) rfl rfl ?_
  refine ax_gf (p' := 83) rfl rfl (S.ob rfl) (S.rf rfl rfl) ?_
  refine am_ev.step (pc' := 84) rfl rfl ?_
  refine ax_gf (p' := 87) rfl rfl (S.ob rfl) (S.rf rfl rfl) ?_
  refine am_ev.step (pc' := 88) rfl rfl ?_
  refine ax_iaload (p' := 89) rfl rfl (S.rd (k := i) rfl rfl rfl rfl rfl (by omega) f1) ?_
  refine ax_baload (p' := 90) rfl rfl (S.rd (k := p) rfl rfl rfl rfl rfl (by omega) vt) ?_
  refine fx_z_ne_T (pT := 96) rfl (by omega) rfl (by omega) ?_
  refine fx_inc (p' := 99) (e := ((i : Int) + 1)) (ls' := [.ref 78, .int S0, iv ((k : Int)), iv ((i : Int) + 1), x4, x5, x6, x7, x8]) rfl rfl rfl (by omega) rfl ?_
  refine am_ev.step (pc' := 74) rfl rfl ?_
  exact (rr_n ▸ q9)
theorem or_239k (S : fS g) (hk : k ≤ 10) (H240 : am_ev (d + 9) 240 0 (am_ent [.ref 78] 3) [] g (none, G)) (SG : fS G) (hW : wkM k = Int32.ofInt (W : Int)) {x : Option Value × am_H} (q9 : am_ev (d + 10) 239 115 [.ref 78, .int S0, iv ((k : Int)), iv ((W : Int)), iv 0, x5, x6, x7, x8] [] G x) : am_ev (d + 10) 239 102 [.ref 78, .int S0, iv ((k : Int)), iv ((i : Int)), x4, x5, x6, x7, x8] [] g x := by
  refine am_ev.step (pc' := 103) rfl rfl ?_
  refine ax_call (z := 240) (p' := 106) (as := [_]) rfl (Or.inr (Or.inl ⟨_, rfl⟩)) rfl rfl rfl rfl rfl rfl (S.ob rfl) rfl H240 rfl ?_
  refine am_ev.step (pc' := 107) rfl rfl ?_
  refine am_ev.step (pc' := 108) rfl rfl ?_
  refine am_ev.step (pc' := 109) rfl rfl ?_
  refine am_ev.step (pc' := 110) rfl rfl ?_
  refine am_ev.step (pc' := 111) rfl rfl ?_
  refine ax_top hW ?_
  refine am_ev.step (pc' := 112) (ls' := [.ref 78, .int S0, iv ((k : Int)), iv ((W : Int)), x4, x5, x6, x7, x8]) rfl rfl ?_
  refine am_ev.step (pc' := 113) rfl rfl ?_
  refine am_ev.step (pc' := 115) (ls' := [.ref 78, .int S0, iv ((k : Int)), iv ((W : Int)), iv 0, x5, x6, x7, x8]) rfl rfl ?_
  exact q9
theorem or_239l (S : fS g) (hk : k ≤ 10) (bW : W < 1024) (hpt : part = W + 1) {x : Option Value × am_H} (q9 : am_ev (d + 10) 239 221 [.ref 78, .int S0, iv ((k : Int)), iv ((W : Int)), iv 1000000000, iv 0, x6, x7, x8] [] g x) : am_ev (d + 10) 239 115 [.ref 78, .int S0, iv ((k : Int)), iv ((W : Int)), iv ((part : Int)), x5, x6, x7, x8] [] g x := by
  refine am_ev.step (pc' := 117) rfl rfl ?_
  refine am_ev.step (pc' := 118) rfl rfl ?_
  refine fx_c_gt_T (pT := 213) rfl (by omega) (by omega) rfl (by omega) ?_
  refine am_ev.step (pc' := 216) (st' := [iv 1000000000]) rfl rfl ?_
  refine am_ev.step (pc' := 218) (ls' := [.ref 78, .int S0, iv ((k : Int)), iv ((W : Int)), iv 1000000000, x5, x6, x7, x8]) rfl rfl ?_
  refine am_ev.step (pc' := 219) rfl rfl ?_
  refine am_ev.step (pc' := 221) (ls' := [.ref 78, .int S0, iv ((k : Int)), iv ((W : Int)), iv 1000000000, iv 0, x6, x7, x8]) rfl rfl ?_
  exact q9
theorem or_239m (S : fS g) (hk : k ≤ 10) (bW : W < 1024) (hpt : part ≤ W) {x : Option Value × am_H} (q9 : am_ev (d + 10) 239 124 [.ref 78, .int S0, iv ((k : Int)), iv ((W : Int)), iv ((part : Int)), iv 0, x6, x7, x8] [] g x) : am_ev (d + 10) 239 115 [.ref 78, .int S0, iv ((k : Int)), iv ((W : Int)), iv ((part : Int)), x5, x6, x7, x8] [] g x := by
  refine am_ev.step (pc' := 117) rfl rfl ?_
  refine am_ev.step (pc' := 118) rfl rfl ?_
  refine fx_c_gt_F (pF := 121) rfl (by omega) (by omega) rfl (by omega) ?_
  refine am_ev.step (pc' := 122) rfl rfl ?_
  refine am_ev.step (pc' := 124) (ls' := [.ref 78, .int S0, iv ((k : Int)), iv ((W : Int)), iv ((part : Int)), iv 0, x6, x7, x8]) rfl rfl ?_
  exact q9
theorem or_239n (S : fS g) (hk : k ≤ 10) (bW : W < 1024) (hpt : part ≤ W) (ho : one = k) {x : Option Value × am_H} (q9 : am_ev (d + 10) 239 115 [.ref 78, .int S0, iv ((k : Int)), iv ((W : Int)), iv ((part + 1 : Nat) : Int), iv ((one : Int)), x6, x7, x8] [] g x) : am_ev (d + 10) 239 124 [.ref 78, .int S0, iv ((k : Int)), iv ((W : Int)), iv ((part : Int)), iv ((one : Int)), x6, x7, x8] [] g x := by
  refine am_ev.step (pc' := 126) rfl rfl ?_
  refine am_ev.step (pc' := 127) rfl rfl ?_
  refine fx_c_ge_T (pT := 207) rfl (by omega) (by omega) rfl (by omega) ?_
  refine fx_inc (p' := 210) (e := ((part : Int) + 1)) (ls' := [.ref 78, .int S0, iv ((k : Int)), iv ((W : Int)), iv ((part : Int) + 1), iv ((one : Int)), x6, x7, x8]) rfl rfl rfl (by omega) rfl ?_
  refine am_ev.step (pc' := 115) rfl rfl ?_
  exact (rr_n ▸ q9)
theorem or_239o (S : fS g) (hk : k ≤ 10) (bW : W < 1024) (hpt : part ≤ W) (ho : one < k) (hp0 : part = 0) {x : Option Value × am_H} (q9 : am_ev (d + 10) 239 147 [.ref 78, .int S0, iv ((k : Int)), iv ((W : Int)), iv ((part : Int)), iv ((one : Int)), iv 0, iv 0, x8] [] g x) : am_ev (d + 10) 239 124 [.ref 78, .int S0, iv ((k : Int)), iv ((W : Int)), iv ((part : Int)), iv ((one : Int)), x6, x7, x8] [] g x := by
  refine am_ev.step (pc' := 126) rfl rfl ?_
  refine am_ev.step (pc' := 127) rfl rfl ?_
  refine fx_c_ge_F (pF := 130) rfl (by omega) (by omega) rfl (by omega) ?_
  refine am_ev.step (pc' := 132) rfl rfl ?_
  refine fx_z_ne_F (pF := 135) rfl (by omega) rfl (by omega) ?_
  refine am_ev.step (pc' := 136) rfl rfl ?_
  refine am_ev.step (pc' := 142) rfl rfl ?_
  refine am_ev.step (pc' := 144) (ls' := [.ref 78, .int S0, iv ((k : Int)), iv ((W : Int)), iv ((part : Int)), iv ((one : Int)), iv 0, x7, x8]) rfl rfl ?_
  refine am_ev.step (pc' := 145) rfl rfl ?_
  refine am_ev.step (pc' := 147) (ls' := [.ref 78, .int S0, iv ((k : Int)), iv ((W : Int)), iv ((part : Int)), iv ((one : Int)), iv 0, iv 0, x8]) rfl rfl ?_
  exact q9
theorem or_239p (S : fS g) (hk : k ≤ 10) (bW : W < 1024) (hpt : part ≤ W) (ho : one < k) (hp0 : part ≠ 0) {x : Option Value × am_H} (q9 : am_ev (d + 10) 239 147 [.ref 78, .int S0, iv ((k : Int)), iv ((W : Int)), iv ((part : Int)), iv ((one : Int)), iv 1000000000, iv 0, x8] [] g x) : am_ev (d + 10) 239 124 [.ref 78, .int S0, iv ((k : Int)), iv ((W : Int)), iv ((part : Int)), iv ((one : Int)), x6, x7, x8] [] g x := by
  refine am_ev.step (pc' := 126) rfl rfl ?_
  refine am_ev.step (pc' := 127) rfl rfl ?_
  refine fx_c_ge_F (pF := 130) rfl (by omega) (by omega) rfl (by omega) ?_
  refine am_ev.step (pc' := 132) rfl rfl ?_
  refine fx_z_ne_T (pT := 139) rfl (by omega) rfl (by omega) ?_
  refine am_ev.step (pc' := 142) (st' := [iv 1000000000]) rfl rfl ?_
  refine am_ev.step (pc' := 144) (ls' := [.ref 78, .int S0, iv ((k : Int)), iv ((W : Int)), iv ((part : Int)), iv ((one : Int)), iv 1000000000, x7, x8]) rfl rfl ?_
  refine am_ev.step (pc' := 145) rfl rfl ?_
  refine am_ev.step (pc' := 147) (ls' := [.ref 78, .int S0, iv ((k : Int)), iv ((W : Int)), iv ((part : Int)), iv ((one : Int)), iv 1000000000, iv 0, x8]) rfl rfl ?_
  exact q9
theorem or_239q (S : fS g) (hk : k ≤ 10) (bW : W < 1024) (hpt : part ≤ W) (ho : one < k) (bb : 0 ≤ best ∧ best ≤ 1000000000) (hj : j = k) {x : Option Value × am_H} (q9 : am_ev (d + 10) 239 124 [.ref 78, .int S0, iv ((k : Int)), iv ((W : Int)), iv ((part : Int)), iv ((one + 1 : Nat) : Int), iv (best), iv ((j : Int)), x8] [] (am_put g 124 (10 * part + one) (iv (best))) x) : am_ev (d + 10) 239 147 [.ref 78, .int S0, iv ((k : Int)), iv ((W : Int)), iv ((part : Int)), iv ((one : Int)), iv (best), iv ((j : Int)), x8] [] g x := by
  refine am_ev.step (pc' := 149) rfl rfl ?_
  refine am_ev.step (pc' := 150) rfl rfl ?_
  refine fx_c_ge_T (pT := 186) rfl (by omega) (by omega) rfl (by omega) ?_
  refine am_ev.step (pc' := 187) rfl rfl ?_
  refine ax_gf (p' := 190) rfl rfl (S.ob rfl) (S.rf rfl rfl) ?_
  refine fx_bip (p' := 192) rfl rfl rfl ?_
  refine am_ev.step (pc' := 194) rfl rfl ?_
  refine fx_mul (p' := 195) (e := (10 * (part : Int))) rfl rfl (by omega) ?_
  refine am_ev.step (pc' := 197) rfl rfl ?_
  refine fx_add (p' := 198) (e := (10 * (part : Int) + (one : Int))) rfl rfl (by omega) ?_
  refine am_ev.step (pc' := 200) rfl rfl ?_
  refine ax_iastore (p' := 201) rfl rfl (S.wr (k := (10 * part + one)) rfl rfl rfl (by omega) (by omega)) ?_
  refine fx_inc (p' := 204) (e := ((one : Int) + 1)) (ls' := [.ref 78, .int S0, iv ((k : Int)), iv ((W : Int)), iv ((part : Int)), iv ((one : Int) + 1), iv (best), iv ((j : Int)), x8]) rfl rfl rfl (by omega) rfl ?_
  refine am_ev.step (pc' := 124) rfl rfl ?_
  exact (rr_n ▸ q9)
theorem or_239r (S : fS g) (hk : k ≤ 10) (bW : W < 1024) (hpt : part ≤ W) (ho : one < k) (bb : 0 ≤ best ∧ best ≤ 1000000000) (hj : j < k) (qb : bt (Int32.ofInt (part : Int)) one = true) {x : Option Value × am_H} (q9 : am_ev (d + 10) 239 124 [.ref 78, .int S0, iv ((k : Int)), iv ((W : Int)), iv ((part : Int)), iv ((one + 1 : Nat) : Int), iv (best), iv ((j : Int)), x8] [] (am_put g 124 (10 * part + one) (iv (best))) x) : am_ev (d + 10) 239 147 [.ref 78, .int S0, iv ((k : Int)), iv ((W : Int)), iv ((part : Int)), iv ((one : Int)), iv (best), iv ((j : Int)), x8] [] g x := by
  refine am_ev.step (pc' := 149) rfl rfl ?_
  refine am_ev.step (pc' := 150) rfl rfl ?_
  refine fx_c_ge_F (pF := 153) rfl (by omega) (by omega) rfl (by omega) ?_
  refine am_ev.step (pc' := 155) rfl rfl ?_
  refine am_ev.step (pc' := 157) rfl rfl ?_
  refine am_ev.step (pc' := 158) rfl rfl ?_
  refine am_ev.step (pc' := 159) rfl rfl ?_
  refine am_ev.step (pc' := 160) rfl rfl ?_
  refine ax_z_ne_T (p' := 186) rfl rfl (fun z => by rw [(b_sand (by omega)).1 z] at qb; cases qb) ?_
  refine am_ev.step (pc' := 187) rfl rfl ?_
  refine ax_gf (p' := 190) rfl rfl (S.ob rfl) (S.rf rfl rfl) ?_
  refine fx_bip (p' := 192) rfl rfl rfl ?_
  refine am_ev.step (pc' := 194) rfl rfl ?_
  refine fx_mul (p' := 195) (e := (10 * (part : Int))) rfl rfl (by omega) ?_
  refine am_ev.step (pc' := 197) rfl rfl ?_
  refine fx_add (p' := 198) (e := (10 * (part : Int) + (one : Int))) rfl rfl (by omega) ?_
  refine am_ev.step (pc' := 200) rfl rfl ?_
  refine ax_iastore (p' := 201) rfl rfl (S.wr (k := (10 * part + one)) rfl rfl rfl (by omega) (by omega)) ?_
  refine fx_inc (p' := 204) (e := ((one : Int) + 1)) (ls' := [.ref 78, .int S0, iv ((k : Int)), iv ((W : Int)), iv ((part : Int)), iv ((one : Int) + 1), iv (best), iv ((j : Int)), x8]) rfl rfl rfl (by omega) rfl ?_
  refine am_ev.step (pc' := 124) rfl rfl ?_
  exact (rr_n ▸ q9)
theorem or_239s (S : fS g) (hk : k ≤ 10) (bW : W < 1024) (hpt : part ≤ W) (ho : one < k) (bb : 0 ≤ best ∧ best ≤ 1000000000) (hj : j < k) (qb : bt (Int32.ofInt (part : Int)) one = false) (H243 : am_ev (d + 9) 243 0 (am_ent [.ref 78, iv one, iv j, iv part] 7) [] g (some (iv v), g)) (bv : 0 ≤ v ∧ v ≤ 1000000000) (hm : v < best ∧ m = v ∨ ¬ v < best ∧ m = best) {x : Option Value × am_H} (q9 : am_ev (d + 10) 239 147 [.ref 78, .int S0, iv ((k : Int)), iv ((W : Int)), iv ((part : Int)), iv ((one : Int)), iv (m), iv ((j + 1 : Nat) : Int), x8] [] g x) : am_ev (d + 10) 239 147 [.ref 78, .int S0, iv ((k : Int)), iv ((W : Int)), iv ((part : Int)), iv ((one : Int)), iv (best), iv ((j : Int)), x8] [] g x := by
  refine am_ev.step (pc' := 149) rfl rfl ?_
  refine am_ev.step (pc' := 150) rfl rfl ?_
  refine fx_c_ge_F (pF := 153) rfl (by omega) (by omega) rfl (by omega) ?_
  refine am_ev.step (pc' := 155) rfl rfl ?_
  refine am_ev.step (pc' := 157) rfl rfl ?_
  refine am_ev.step (pc' := 158) rfl rfl ?_
  refine am_ev.step (pc' := 159) rfl rfl ?_
  refine am_ev.step (pc' := 160) rfl rfl ?_
  refine ax_z_ne_N (p' := 163) rfl rfl ((b_sand (by omega)).2 qb) ?_
  refine am_ev.step (pc' := 165) rfl rfl ?_
  refine am_ev.step (pc' := 166) rfl rfl ?_
  refine am_ev.step (pc' := 168) rfl rfl ?_
  refine am_ev.step (pc' := 170) rfl rfl ?_
  refine am_ev.step (pc' := 172) rfl rfl ?_
  refine ax_call (z := 243) (p' := 175) (as := [_, _, _, _]) rfl (Or.inr (Or.inl ⟨_, rfl⟩)) rfl rfl rfl rfl rfl rfl (S.ob rfl) rfl H243 rfl ?_
  refine fx_mn (p' := 178) (e := m) rfl (Or.inl ⟨_, rfl⟩) rfl rfl rfl rfl (by omega) (by omega) (fun _ => by omega) (fun _ => by omega) ?_
  refine am_ev.step (pc' := 180) (ls' := [.ref 78, .int S0, iv ((k : Int)), iv ((W : Int)), iv ((part : Int)), iv ((one : Int)), iv (m), iv ((j : Int)), x8]) rfl rfl ?_
  refine fx_inc (p' := 183) (e := ((j : Int) + 1)) (ls' := [.ref 78, .int S0, iv ((k : Int)), iv ((W : Int)), iv ((part : Int)), iv ((one : Int)), iv (m), iv ((j : Int) + 1), x8]) rfl rfl rfl (by omega) rfl ?_
  refine am_ev.step (pc' := 147) rfl rfl ?_
  exact (rr_n ▸ q9)
theorem or_239t (S : fS g) (hk : k ≤ 10) (bW : W < 1024) (bb : 0 ≤ best ∧ best ≤ 1000000000) (hj : j < k) (hA : (Int32.ofInt (W : Int) &&& ((Int32.ofInt 1 <<< (Int32.ofInt (j : Int) &&& 31)) ^^^ Int32.ofInt (-1))) = Int32.ofInt (r2 : Int)) (hr2 : r2 < 1024) (vv : g.2.2.2 124 (10 * r2 + j) = iv v) (bv : 0 ≤ v ∧ v ≤ 1000000000) (hm : v < best ∧ m = v ∨ ¬ v < best ∧ m = best) {x : Option Value × am_H} (q9 : am_ev (d + 10) 239 221 [.ref 78, .int S0, iv ((k : Int)), iv ((W : Int)), iv (m), iv ((j + 1 : Nat) : Int), x6, x7, x8] [] g x) : am_ev (d + 10) 239 221 [.ref 78, .int S0, iv ((k : Int)), iv ((W : Int)), iv (best), iv ((j : Int)), x6, x7, x8] [] g x := by
  refine am_ev.step (pc' := 223) rfl rfl ?_
  refine am_ev.step (pc' := 224) rfl rfl ?_
  refine fx_c_ge_F (pF := 227) rfl (by omega) (by omega) rfl (by omega) ?_
  refine am_ev.step (pc' := 229) rfl rfl ?_
  refine am_ev.step (pc' := 230) rfl rfl ?_
  refine ax_gf (p' := 233) rfl rfl (S.ob rfl) (S.rf rfl rfl) ?_
  refine fx_bip (p' := 235) rfl rfl rfl ?_
  refine am_ev.step (pc' := 236) rfl rfl ?_
  refine am_ev.step (pc' := 237) rfl rfl ?_
  refine am_ev.step (pc' := 239) rfl rfl ?_
  refine am_ev.step (pc' := 240) rfl rfl ?_
  refine am_ev.step (pc' := 241) rfl rfl ?_
  refine am_ev.step (pc' := 242) rfl rfl ?_
  refine am_ev.step (pc' := 243) rfl rfl ?_
  refine ax_top hA ?_
  refine fx_mul (p' := 244) (e := (10 * (r2 : Int))) rfl rfl (by omega) ?_
  refine am_ev.step (pc' := 246) rfl rfl ?_
  refine fx_add (p' := 247) (e := (10 * (r2 : Int) + (j : Int))) rfl rfl (by omega) ?_
  refine ax_iaload (p' := 248) rfl rfl (S.rd (k := (10 * r2 + j)) rfl rfl rfl rfl (by omega) (by omega) vv) ?_
  refine fx_mn (p' := 251) (e := m) rfl (Or.inl ⟨_, rfl⟩) rfl rfl rfl rfl (by omega) (by omega) (fun _ => by omega) (fun _ => by omega) ?_
  refine am_ev.step (pc' := 253) (ls' := [.ref 78, .int S0, iv ((k : Int)), iv ((W : Int)), iv (m), iv ((j : Int)), x6, x7, x8]) rfl rfl ?_
  refine fx_inc (p' := 256) (e := ((j : Int) + 1)) (ls' := [.ref 78, .int S0, iv ((k : Int)), iv ((W : Int)), iv (m), iv ((j : Int) + 1), x6, x7, x8]) rfl rfl rfl (by omega) rfl ?_
  refine am_ev.step (pc' := 221) rfl rfl ?_
  exact (rr_n ▸ q9)
theorem or_239u (S : fS g) (hk : k ≤ 10) (bW : W < 1024) (bb : 0 ≤ best ∧ best ≤ 1000000000) (hj : j = k) (hb : 1000000000 ≤ best) : am_ev (d + 10) 239 221 [.ref 78, .int S0, iv ((k : Int)), iv ((W : Int)), iv (best), iv ((j : Int)), x6, x7, x8] [] g (some (iv (-1)), g) := by
  refine am_ev.step (pc' := 223) rfl rfl ?_
  refine am_ev.step (pc' := 224) rfl rfl ?_
  refine fx_c_ge_T (pT := 259) rfl (by omega) (by omega) rfl (by omega) ?_
  refine am_ev.step (pc' := 261) rfl rfl ?_
  refine am_ev.step (pc' := 264) (st' := [iv 1000000000, iv (best)]) rfl rfl ?_
  refine fx_c_lt_F (pF := 267) rfl (by omega) (by omega) rfl (by omega) ?_
  refine am_ev.step (pc' := 268) rfl rfl ?_
  exact fx_reti rfl rfl rfl
theorem or_239v (S : fS g) (hk : k ≤ 10) (bW : W < 1024) (bb : 0 ≤ best ∧ best ≤ 1000000000) (hj : j = k) (hb : best < 1000000000) {x : Option Value × am_H} (q9 : am_ev (d + 10) 239 272 [.ref 78, .int S0, iv ((k : Int)), iv ((W : Int)), iv (best), iv 0, x6, x7, x8] [] g x) : am_ev (d + 10) 239 221 [.ref 78, .int S0, iv ((k : Int)), iv ((W : Int)), iv (best), iv ((j : Int)), x6, x7, x8] [] g x := by
  refine am_ev.step (pc' := 223) rfl rfl ?_
  refine am_ev.step (pc' := 224) rfl rfl ?_
  refine fx_c_ge_T (pT := 259) rfl (by omega) (by omega) rfl (by omega) ?_
  refine am_ev.step (pc' := 261) rfl rfl ?_
  refine am_ev.step (pc' := 264) (st' := [iv 1000000000, iv (best)]) rfl rfl ?_
  refine fx_c_lt_T (pT := 269) rfl (by omega) (by omega) rfl (by omega) ?_
  refine am_ev.step (pc' := 270) rfl rfl ?_
  refine am_ev.step (pc' := 272) (ls' := [.ref 78, .int S0, iv ((k : Int)), iv ((W : Int)), iv (best), iv 0, x6, x7, x8]) rfl rfl ?_
  exact q9
theorem or_239w (S : fS g) (hk : k ≤ 10) (bW : W < 1024) (bb : 0 ≤ best ∧ best ≤ 1000000000) (hj : j < k) (hA : (Int32.ofInt (W : Int) &&& ((Int32.ofInt 1 <<< (Int32.ofInt (j : Int) &&& 31)) ^^^ Int32.ofInt (-1))) = Int32.ofInt (r2 : Int)) (hr2 : r2 < 1024) (vv : g.2.2.2 124 (10 * r2 + j) = iv v) (bv : 0 ≤ v ∧ v ≤ 1000000000) (hv : v ≠ best) {x : Option Value × am_H} (q9 : am_ev (d + 10) 239 272 [.ref 78, .int S0, iv ((k : Int)), iv ((W : Int)), iv (best), iv ((j + 1 : Nat) : Int), x6, x7, x8] [] g x) : am_ev (d + 10) 239 272 [.ref 78, .int S0, iv ((k : Int)), iv ((W : Int)), iv (best), iv ((j : Int)), x6, x7, x8] [] g x := by
  refine am_ev.step (pc' := 273) rfl rfl ?_
  refine ax_gf (p' := 276) rfl rfl (S.ob rfl) (S.rf rfl rfl) ?_
  refine fx_bip (p' := 278) rfl rfl rfl ?_
  refine am_ev.step (pc' := 279) rfl rfl ?_
  refine am_ev.step (pc' := 280) rfl rfl ?_
  refine am_ev.step (pc' := 282) rfl rfl ?_
  refine am_ev.step (pc' := 283) rfl rfl ?_
  refine am_ev.step (pc' := 284) rfl rfl ?_
  refine am_ev.step (pc' := 285) rfl rfl ?_
  refine am_ev.step (pc' := 286) rfl rfl ?_
  refine ax_top hA ?_
  refine fx_mul (p' := 287) (e := (10 * (r2 : Int))) rfl rfl (by omega) ?_
  refine am_ev.step (pc' := 289) rfl rfl ?_
  refine fx_add (p' := 290) (e := (10 * (r2 : Int) + (j : Int))) rfl rfl (by omega) ?_
  refine ax_iaload (p' := 291) rfl rfl (S.rd (k := (10 * r2 + j)) rfl rfl rfl rfl (by omega) (by omega) vv) ?_
  refine am_ev.step (pc' := 293) rfl rfl ?_
  refine fx_c_eq_F (pF := 296) rfl (by omega) (by omega) rfl (by omega) ?_
  refine fx_inc (p' := 299) (e := ((j : Int) + 1)) (ls' := [.ref 78, .int S0, iv ((k : Int)), iv ((W : Int)), iv (best), iv ((j : Int) + 1), x6, x7, x8]) rfl rfl rfl (by omega) rfl ?_
  refine am_ev.step (pc' := 272) rfl rfl ?_
  exact (rr_n ▸ q9)
theorem or_239x (S : fS g) (hk : k ≤ 10) (bW : W < 1024) (bb : 0 ≤ best ∧ best ≤ 1000000000) (hj : j < k) (hA : (Int32.ofInt (W : Int) &&& ((Int32.ofInt 1 <<< (Int32.ofInt (j : Int) &&& 31)) ^^^ Int32.ofInt (-1))) = Int32.ofInt (r2 : Int)) (hr2 : r2 < 1024) (vv : g.2.2.2 124 (10 * r2 + j) = iv v) (bv : 0 ≤ v ∧ v ≤ 1000000000) (hv : v = best) (f1 : g.2.2.2 123 j = iv p) (H245 : am_ev (d + 9) 245 0 (am_ent [.ref 78, iv p] 2) [] (am_put g 78 55 (iv 0)) (none, G)) (SG : fS G) {x : Option Value × am_H} (q9 : am_ev (d + 10) 239 332 [.ref 78, .int S0, iv ((k : Int)), iv ((W : Int)), iv (best), iv ((j : Int)), iv ((r2 : Int)), iv (best), x8] [] G x) : am_ev (d + 10) 239 272 [.ref 78, .int S0, iv ((k : Int)), iv ((W : Int)), iv (best), iv ((j : Int)), x6, x7, x8] [] g x := by
  refine am_ev.step (pc' := 273) rfl rfl ?_
  refine ax_gf (p' := 276) rfl rfl (S.ob rfl) (S.rf rfl rfl) ?_
  refine fx_bip (p' := 278) rfl rfl rfl ?_
  refine am_ev.step (pc' := 279) rfl rfl ?_
  refine am_ev.step (pc' := 280) rfl rfl ?_
  refine am_ev.step (pc' := 282) rfl rfl ?_
  refine am_ev.step (pc' := 283) rfl rfl ?_
  refine am_ev.step (pc' := 284) rfl rfl ?_
  refine am_ev.step (pc' := 285) rfl rfl ?_
  refine am_ev.step (pc' := 286) rfl rfl ?_
  refine ax_top hA ?_
  refine fx_mul (p' := 287) (e := (10 * (r2 : Int))) rfl rfl (by omega) ?_
  refine am_ev.step (pc' := 289) rfl rfl ?_
  refine fx_add (p' := 290) (e := (10 * (r2 : Int) + (j : Int))) rfl rfl (by omega) ?_
  refine ax_iaload (p' := 291) rfl rfl (S.rd (k := (10 * r2 + j)) rfl rfl rfl rfl (by omega) (by omega) vv) ?_
  refine am_ev.step (pc' := 293) rfl rfl ?_
  refine fx_c_eq_T (pT := 302) rfl (by omega) (by omega) rfl (by omega) ?_
  refine am_ev.step (pc' := 303) rfl rfl ?_
  refine am_ev.step (pc' := 304) rfl rfl ?_
  refine am_ev.step (pc' := 306) rfl rfl ?_
  refine am_ev.step (pc' := 307) rfl rfl ?_
  refine am_ev.step (pc' := 308) rfl rfl ?_
  refine am_ev.step (pc' := 309) rfl rfl ?_
  refine am_ev.step (pc' := 310) rfl rfl ?_
  refine ax_top hA ?_
  refine am_ev.step (pc' := 312) (ls' := [.ref 78, .int S0, iv ((k : Int)), iv ((W : Int)), iv (best), iv ((j : Int)), iv ((r2 : Int)), x7, x8]) rfl rfl ?_
  refine am_ev.step (pc' := 314) rfl rfl ?_
  refine am_ev.step (pc' := 316) (ls' := [.ref 78, .int S0, iv ((k : Int)), iv ((W : Int)), iv (best), iv ((j : Int)), iv ((r2 : Int)), iv (best), x8]) rfl rfl ?_
  refine am_ev.step (pc' := 317) rfl rfl ?_
  refine am_ev.step (pc' := 318) rfl rfl ?_
  refine ax_pf (p' := 321) rfl rfl (S.ob rfl) rfl ?_
  refine am_ev.step (pc' := 322) rfl rfl ?_
  refine am_ev.step (pc' := 323) rfl rfl ?_
  refine ax_gf (p' := 326) rfl rfl (fO (S.ob rfl)) (ax_put_o (Or.inr (by decide)) (S.rf rfl rfl)) ?_
  refine am_ev.step (pc' := 328) rfl rfl ?_
  refine ax_iaload (p' := 329) rfl rfl ((S.po rfl rfl).rd (k := j) rfl rfl rfl rfl rfl (by omega) (ax_put_o (Or.inl (by decide)) f1)) ?_
  refine ax_call (z := 245) (p' := 332) (as := [_, _]) rfl (Or.inr (Or.inl ⟨_, rfl⟩)) rfl rfl rfl rfl rfl rfl (fO (S.ob rfl)) rfl H245 rfl ?_
  exact q9
theorem or_239y (S : fS g) (hk : k ≤ 10) (bW : W < 1024) (bb : 0 ≤ best ∧ best ≤ 1000000000) (hr : r = 0) (H246 : am_ev (d + 9) 246 0 (am_ent [.ref 78] 1) [] g (none, G)) (SG : fS G) : am_ev (d + 10) 239 332 [.ref 78, .int S0, iv ((k : Int)), iv ((W : Int)), iv (best), iv ((one : Int)), iv ((r : Int)), iv (due), x8] [] g (some (iv best), G) := by
  refine am_ev.step (pc' := 334) rfl rfl ?_
  refine fx_z_eq_T (pT := 413) rfl (by omega) rfl (by omega) ?_
  refine am_ev.step (pc' := 414) rfl rfl ?_
  refine ax_call (z := 246) (p' := 417) (as := [_]) rfl (Or.inr (Or.inl ⟨_, rfl⟩)) rfl rfl rfl rfl rfl rfl (S.ob rfl) rfl H246 rfl ?_
  refine am_ev.step (pc' := 419) rfl rfl ?_
  exact fx_reti rfl rfl rfl
theorem or_239z (S : fS g) (hr : r ≠ 0) (hr3 : r < 1024) {x : Option Value × am_H} (q9 : am_ev (d + 10) 239 340 [.ref 78, .int S0, iv ((k : Int)), iv ((W : Int)), iv (best), iv ((one : Int)), iv ((r : Int)), iv (due), iv 0] [] g x) : am_ev (d + 10) 239 332 [.ref 78, .int S0, iv ((k : Int)), iv ((W : Int)), iv (best), iv ((one : Int)), iv ((r : Int)), iv (due), x8] [] g x := by
  refine am_ev.step (pc' := 334) rfl rfl ?_
  refine fx_z_eq_F (pF := 337) rfl (by omega) rfl (by omega) ?_
  refine am_ev.step (pc' := 338) rfl rfl ?_
  refine am_ev.step (pc' := 340) (ls' := [.ref 78, .int S0, iv ((k : Int)), iv ((W : Int)), iv (best), iv ((one : Int)), iv ((r : Int)), iv (due), iv 0]) rfl rfl ?_
  exact q9
theorem or_239A (S : fS g) (hk : k ≤ 10) (hj : j < k) (bd : 0 ≤ due ∧ due ≤ 1000000000) (H243 : am_ev (d + 9) 243 0 (am_ent [.ref 78, iv one, iv j, iv r] 7) [] g (some (iv v), g)) (bv : 0 ≤ v ∧ v ≤ 1000000000) (hv : v ≠ due) {x : Option Value × am_H} (q9 : am_ev (d + 10) 239 340 [.ref 78, .int S0, iv ((k : Int)), iv ((W : Int)), iv (best), iv ((one : Int)), iv ((r : Int)), iv (due), iv ((j + 1 : Nat) : Int)] [] g x) : am_ev (d + 10) 239 340 [.ref 78, .int S0, iv ((k : Int)), iv ((W : Int)), iv (best), iv ((one : Int)), iv ((r : Int)), iv (due), iv ((j : Int))] [] g x := by
  refine am_ev.step (pc' := 341) rfl rfl ?_
  refine am_ev.step (pc' := 343) rfl rfl ?_
  refine am_ev.step (pc' := 345) rfl rfl ?_
  refine am_ev.step (pc' := 347) rfl rfl ?_
  refine ax_call (z := 243) (p' := 350) (as := [_, _, _, _]) rfl (Or.inr (Or.inl ⟨_, rfl⟩)) rfl rfl rfl rfl rfl rfl (S.ob rfl) rfl H243 rfl ?_
  refine am_ev.step (pc' := 352) rfl rfl ?_
  refine fx_c_eq_F (pF := 355) rfl (by omega) (by omega) rfl (by omega) ?_
  refine fx_inc (p' := 358) (e := ((j : Int) + 1)) (ls' := [.ref 78, .int S0, iv ((k : Int)), iv ((W : Int)), iv (best), iv ((one : Int)), iv ((r : Int)), iv (due), iv ((j : Int) + 1)]) rfl rfl rfl (by omega) rfl ?_
  refine am_ev.step (pc' := 340) rfl rfl ?_
  exact (rr_n ▸ q9)
theorem or_239B (S : fS g) (hk : k ≤ 10) (hj : j < k) (bd : 0 ≤ due ∧ due ≤ 1000000000) (H243 : am_ev (d + 9) 243 0 (am_ent [.ref 78, iv one, iv j, iv r] 7) [] g (some (iv v), g)) (bv : 0 ≤ v ∧ v ≤ 1000000000) (hv : v = due) (ho : one < 10) (f1 : g.2.2.2 123 one = iv p) (f2 : g.2.2.2 123 j = iv p2) (H244 : am_ev (d + 9) 244 0 (am_ent [.ref 78, iv p, iv p2] 3) [] g (some (iv m), g)) (bm : 0 ≤ m ∧ m ≤ due) (hA : (Int32.ofInt (r : Int) &&& ((Int32.ofInt 1 <<< (Int32.ofInt (j : Int) &&& 31)) ^^^ Int32.ofInt (-1))) = Int32.ofInt (r2 : Int)) (H245 : am_ev (d + 9) 245 0 (am_ent [.ref 78, iv p2] 2) [] g (none, G)) (SG : fS G) {x : Option Value × am_H} (q9 : am_ev (d + 10) 239 332 [.ref 78, .int S0, iv ((k : Int)), iv ((W : Int)), iv (best), iv ((j : Int)), iv ((r2 : Int)), iv (due - m), iv ((j : Int))] [] G x) : am_ev (d + 10) 239 340 [.ref 78, .int S0, iv ((k : Int)), iv ((W : Int)), iv (best), iv ((one : Int)), iv ((r : Int)), iv (due), iv ((j : Int))] [] g x := by
  refine am_ev.step (pc' := 341) rfl rfl ?_
  refine am_ev.step (pc' := 343) rfl rfl ?_
  refine am_ev.step (pc' := 345) rfl rfl ?_
  refine am_ev.step (pc' := 347) rfl rfl ?_
  refine ax_call (z := 243) (p' := 350) (as := [_, _, _, _]) rfl (Or.inr (Or.inl ⟨_, rfl⟩)) rfl rfl rfl rfl rfl rfl (S.ob rfl) rfl H243 rfl ?_
  refine am_ev.step (pc' := 352) rfl rfl ?_
  refine fx_c_eq_T (pT := 361) rfl (by omega) (by omega) rfl (by omega) ?_
  refine am_ev.step (pc' := 363) rfl rfl ?_
  refine am_ev.step (pc' := 364) rfl rfl ?_
  refine am_ev.step (pc' := 365) rfl rfl ?_
  refine ax_gf (p' := 368) rfl rfl (S.ob rfl) (S.rf rfl rfl) ?_
  refine am_ev.step (pc' := 370) rfl rfl ?_
  refine ax_iaload (p' := 371) rfl rfl (S.rd (k := one) rfl rfl rfl rfl rfl (by omega) f1) ?_
  refine am_ev.step (pc' := 372) rfl rfl ?_
  refine ax_gf (p' := 375) rfl rfl (S.ob rfl) (S.rf rfl rfl) ?_
  refine am_ev.step (pc' := 377) rfl rfl ?_
  refine ax_iaload (p' := 378) rfl rfl (S.rd (k := j) rfl rfl rfl rfl rfl (by omega) f2) ?_
  refine ax_call (z := 244) (p' := 381) (as := [_, _, _]) rfl (Or.inr (Or.inl ⟨_, rfl⟩)) rfl rfl rfl rfl rfl rfl (S.ob rfl) rfl H244 rfl ?_
  refine fx_sub (p' := 382) (e := (due - m)) rfl rfl (by omega) ?_
  refine am_ev.step (pc' := 384) (ls' := [.ref 78, .int S0, iv ((k : Int)), iv ((W : Int)), iv (best), iv ((one : Int)), iv ((r : Int)), iv (due - m), iv ((j : Int))]) rfl rfl ?_
  refine am_ev.step (pc' := 386) rfl rfl ?_
  refine am_ev.step (pc' := 387) rfl rfl ?_
  refine am_ev.step (pc' := 389) rfl rfl ?_
  refine am_ev.step (pc' := 390) rfl rfl ?_
  refine am_ev.step (pc' := 391) rfl rfl ?_
  refine am_ev.step (pc' := 392) rfl rfl ?_
  refine am_ev.step (pc' := 393) rfl rfl ?_
  refine ax_top hA ?_
  refine am_ev.step (pc' := 395) (ls' := [.ref 78, .int S0, iv ((k : Int)), iv ((W : Int)), iv (best), iv ((one : Int)), iv ((r2 : Int)), iv (due - m), iv ((j : Int))]) rfl rfl ?_
  refine am_ev.step (pc' := 397) rfl rfl ?_
  refine am_ev.step (pc' := 399) (ls' := [.ref 78, .int S0, iv ((k : Int)), iv ((W : Int)), iv (best), iv ((j : Int)), iv ((r2 : Int)), iv (due - m), iv ((j : Int))]) rfl rfl ?_
  refine am_ev.step (pc' := 400) rfl rfl ?_
  refine am_ev.step (pc' := 401) rfl rfl ?_
  refine ax_gf (p' := 404) rfl rfl (S.ob rfl) (S.rf rfl rfl) ?_
  refine am_ev.step (pc' := 406) rfl rfl ?_
  refine ax_iaload (p' := 407) rfl rfl (S.rd (k := j) rfl rfl rfl rfl rfl (by omega) f2) ?_
  refine ax_call (z := 245) (p' := 410) (as := [_, _]) rfl (Or.inr (Or.inl ⟨_, rfl⟩)) rfl rfl rfl rfl rfl rfl (S.ob rfl) rfl H245 rfl ?_
  refine am_ev.step (pc' := 332) rfl rfl ?_
  exact q9
end ORN
