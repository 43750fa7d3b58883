/-! EDITIONS' TEXTS AND LAYOUTS, kept over every call of the law -/
def rY (h : am_H) : Prop := rK h ∧ rWW h
def rY_m (m : cq_W) : Bool := rK_m m && hx_fm m && rX_m m && rZ_m m && lw_nA m 44
abbrev rg (h : am_H) : Prop := ∃ P T : Int, h.2.2.2 44 0 = iv P ∧ h.2.2.2 44 2 = iv T ∧ (6 ≤ P ∧ P ≤ 60) ∧ (0 ≤ T ∧ T ≤ 4)
def n40 (v : Value) : Bool := match v with
  | .ref a => Nat.beq a 40
  | _ => true
section RVV
variable {h h' : am_H} {m : cq_W} {d : Nat}
theorem rg_b (I : cq_Inv none h) (F : cq_Fr m h h') (q : lw_nA m 44 = true) (r : rg h') : rg h := by
  obtain ⟨P, T, a, b, c⟩ := r
  exact ⟨P, T, (lw_frA F I.lo (by decide) q 0).symm.trans a, (lw_frA F I.lo (by decide) q 2).symm.trans b, c⟩
theorem rg_f (I : cq_Inv none h) (F : cq_Fr m h h') (q : lw_nA m 44 = true) (r : rg h) : rg h' := by
  obtain ⟨P, T, a, b, c⟩ := r
  exact ⟨P, T, (lw_frA F I.lo (by decide) q 0).trans a, (lw_frA F I.lo (by decide) q 2).trans b, c⟩
theorem gv_fr (I : cq_Inv none h) (I' : cq_Inv none h') (F : cq_Fr m h h') (n : h'.1 = h.1) (q : (rK_m m && hx_fm m && rX_m m && rZ_m m) = true) (r : rg h') (X : rY h) : rY h' := by
  have b1 := (Bool.and_eq_true _ _ ▸ q)
  have b2 := (Bool.and_eq_true _ _ ▸ b1.1)
  have b3 := (Bool.and_eq_true _ _ ▸ b2.1)
  obtain ⟨K, ⟨W, XX⟩, Z⟩ := X
  obtain ⟨W', q'⟩ := hx_frT W I I' F n b3.2 r
  exact ⟨rK_fr I F b3.1 K, ⟨W', rX_fr I F (eS.oy W q') b2.2 XX⟩, rZ_fr I F b1.2 Z⟩
theorem rY_fr (I : cq_Inv none h) (I' : cq_Inv none h') (F : cq_Fr m h h') (n : h'.1 = h.1) (q : rY_m m = true) (X : rY h) : rY h' := by
  have b := (Bool.and_eq_true _ _ ▸ q)
  exact gv_fr I I' F n b.1 (rg_f I F b.2 X.2.1.1.2.2) X
theorem n_40 {as : List Value} (q : as.all n40 = true) : ∀ v ∈ as, ∀ a : Nat, v = .ref a → a = 40 := fun v hv a e => by
  have z := List.all_eq_true.1 q v hv
  subst e
  exact Nat.eq_of_beq_eq_true z
theorem gv_hy {y mx : Nat} {as : List Value} {v : Option Value} (I : cq_Inv none h) (F : cq_Fr m h h') (hy : hy_S y = true) (hz : hz_S y = true) (n : as.all n40 = true) (ev : am_ev d y 0 (am_ent as mx) [] h (v, h')) (q : (rK_m m && rX_m m && rZ_m m) = true) (r : rg h') (X : rY h) : rY h' := by
  have b1 := (Bool.and_eq_true _ _ ▸ q)
  have b2 := (Bool.and_eq_true _ _ ▸ b1.1)
  obtain ⟨K, ⟨W, XX⟩, Z⟩ := X
  obtain ⟨W', q'⟩ := hy_go W (fS.of I) hy hz (n_40 n) ev r
  exact ⟨rK_fr I F b2.1 K, ⟨W', rX_fr I F (eS.oy W q') b2.2 XX⟩, rZ_fr I F b1.2 Z⟩
theorem hx_n {as : List Value} (q : as.all n40 = true) : nhL (hx_U h) as := fun v hv a e u => by
  have ea : @Eq Nat a 40 := n_40 q v hv a e
  rcases u with u | u | ⟨E, u1, -, -, u4⟩
  · omega
  · omega
  · omega
theorem gv_hx {y mx : Nat} {as : List Value} {v : Option Value} (I : cq_Inv none h) (F : cq_Fr m h h') (hy : hx_S y = true) (hd : hx_D y ≤ d) (n : as.all n40 = true) (ev : am_ev d y 0 (am_ent as mx) [] h (v, h')) (q : (rK_m m && rX_m m && rZ_m m) = true) (X : rY h) : rY h' := by
  have b1 := (Bool.and_eq_true _ _ ▸ q)
  have b2 := (Bool.and_eq_true _ _ ▸ b1.1)
  obtain ⟨K, ⟨W, XX⟩, Z⟩ := X
  obtain ⟨W', q', -⟩ := hx_go W (fS.of I) hy hd (hx_n n) ev
  exact ⟨rK_fr I F b2.1 K, ⟨W', rX_fr I F (eS.of q') b2.2 XX⟩, rZ_fr I F b1.2 Z⟩
theorem n4_0 {y k B : Nat} {c : cq_Ct} (ok : cq_CT y c) (e1 : c.2.1 = [(5, (0, []), k)]) (e2 : c.2.2.1 = cq_mk 0 ([], []) [] [] [] [] [] [] none 0 0) (e3 : (c.2.2.2.2.all fun x => sz_E x 0 B) = true) (I : cq_Inv none h) (hd : c.1 ≤ d) {r : Int32} (ev : am_ev d y 0 (am_ent [.ref k] (am_in y).2.2.1) [] h (some (.int r), h')) : h'.1 = h.1 := by
  obtain ⟨r', h2, ev2, I2, F2, a, b⟩ := sz_ap0 (A := 0) (B := B) ok e1 e2 e3 I hd
  have e := (Prod.mk.inj (ax_det ev ev2)).2
  rw [e]
  exact Nat.le_antisymm a F2.nx
theorem n4_1 {y k B : Nat} {c : cq_Ct} (ok : cq_CT y c) (e1 : c.2.1 = [(5, (0, []), k), (1, (0, [(0, 1)]), 0)]) (e2 : c.2.2.1 = cq_mk 1 ([(0, (-2147483648), 2147483647)], []) [] [] [] [] [] [] none 0 0) (e3 : (c.2.2.2.2.all fun x => sz_E x 0 B) = true) (I : cq_Inv none h) (hd : c.1 ≤ d) {w1 : Int32} {r : Int32} (ev : am_ev d y 0 (am_ent [.ref k, .int w1] (am_in y).2.2.1) [] h (some (.int r), h')) : h'.1 = h.1 := by
  obtain ⟨r', h2, ev2, I2, F2, a, b⟩ := sz_ap1 (A := 0) (B := B) ok e1 e2 e3 I hd w1
  have e := (Prod.mk.inj (ax_det ev ev2)).2
  rw [e]
  exact Nat.le_antisymm a F2.nx
theorem n4_2 {y k B : Nat} {c : cq_Ct} (ok : cq_CT y c) (e1 : c.2.1 = [(5, (0, []), k), (1, (0, [(0, 1)]), 0), (1, (0, [(1, 1)]), 0)]) (e2 : c.2.2.1 = cq_mk 2 ([(0, (-2147483648), 2147483647), (1, (-2147483648), 2147483647)], []) [] [] [] [] [] [] none 0 0) (e3 : (c.2.2.2.2.all fun x => sz_E x 0 B) = true) (I : cq_Inv none h) (hd : c.1 ≤ d) {w1 w2 : Int32} {r : Int32} (ev : am_ev d y 0 (am_ent [.ref k, .int w1, .int w2] (am_in y).2.2.1) [] h (some (.int r), h')) : h'.1 = h.1 := by
  obtain ⟨r', h2, ev2, I2, F2, a, b⟩ := sz_ap2 (A := 0) (B := B) ok e1 e2 e3 I hd w1 w2
  have e := (Prod.mk.inj (ax_det ev ev2)).2
  rw [e]
  exact Nat.le_antisymm a F2.nx
theorem n4_3 {y k B : Nat} {c : cq_Ct} (ok : cq_CT y c) (e1 : c.2.1 = [(5, (0, []), k), (1, (0, [(0, 1)]), 0), (1, (0, [(1, 1)]), 0), (1, (0, [(2, 1)]), 0)]) (e2 : c.2.2.1 = cq_mk 3 ([(0, (-2147483648), 2147483647), (1, (-2147483648), 2147483647), (2, (-2147483648), 2147483647)], []) [] [] [] [] [] [] none 0 0) (e3 : (c.2.2.2.2.all fun x => sz_E x 0 B) = true) (I : cq_Inv none h) (hd : c.1 ≤ d) {w1 w2 w3 : Int32} {r : Int32} (ev : am_ev d y 0 (am_ent [.ref k, .int w1, .int w2, .int w3] (am_in y).2.2.1) [] h (some (.int r), h')) : h'.1 = h.1 := by
  obtain ⟨r', h2, ev2, I2, F2, a, b⟩ := sz_ap3 (A := 0) (B := B) ok e1 e2 e3 I hd w1 w2 w3
  have e := (Prod.mk.inj (ax_det ev ev2)).2
  rw [e]
  exact Nat.le_antisymm a F2.nx
theorem n4_4 {y k B : Nat} {c : cq_Ct} (ok : cq_CT y c) (e1 : c.2.1 = [(5, (0, []), k), (1, (0, [(0, 1)]), 0), (1, (0, [(1, 1)]), 0), (1, (0, [(2, 1)]), 0), (1, (0, [(3, 1)]), 0)]) (e2 : c.2.2.1 = cq_mk 4 ([(0, (-2147483648), 2147483647), (1, (-2147483648), 2147483647), (2, (-2147483648), 2147483647), (3, (-2147483648), 2147483647)], []) [] [] [] [] [] [] none 0 0) (e3 : (c.2.2.2.2.all fun x => sz_E x 0 B) = true) (I : cq_Inv none h) (hd : c.1 ≤ d) {w1 w2 w3 w4 : Int32} {r : Int32} (ev : am_ev d y 0 (am_ent [.ref k, .int w1, .int w2, .int w3, .int w4] (am_in y).2.2.1) [] h (some (.int r), h')) : h'.1 = h.1 := by
  obtain ⟨r', h2, ev2, I2, F2, a, b⟩ := sz_ap4 (A := 0) (B := B) ok e1 e2 e3 I hd w1 w2 w3 w4
  have e := (Prod.mk.inj (ax_det ev ev2)).2
  rw [e]
  exact Nat.le_antisymm a F2.nx
theorem n4_5 {y k B : Nat} {c : cq_Ct} (ok : cq_CT y c) (e1 : c.2.1 = [(5, (0, []), k), (1, (0, [(0, 1)]), 0), (1, (0, [(1, 1)]), 0), (1, (0, [(2, 1)]), 0), (1, (0, [(3, 1)]), 0), (1, (0, [(4, 1)]), 0)]) (e2 : c.2.2.1 = cq_mk 5 ([(0, (-2147483648), 2147483647), (1, (-2147483648), 2147483647), (2, (-2147483648), 2147483647), (3, (-2147483648), 2147483647), (4, (-2147483648), 2147483647)], []) [] [] [] [] [] [] none 0 0) (e3 : (c.2.2.2.2.all fun x => sz_E x 0 B) = true) (I : cq_Inv none h) (hd : c.1 ≤ d) {w1 w2 w3 w4 w5 : Int32} {r : Int32} (ev : am_ev d y 0 (am_ent [.ref k, .int w1, .int w2, .int w3, .int w4, .int w5] (am_in y).2.2.1) [] h (some (.int r), h')) : h'.1 = h.1 := by
  obtain ⟨r', h2, ev2, I2, F2, a, b⟩ := sz_ap5 (A := 0) (B := B) ok e1 e2 e3 I hd w1 w2 w3 w4 w5
  have e := (Prod.mk.inj (ax_det ev ev2)).2
  rw [e]
  exact Nat.le_antisymm a F2.nx
end RVV
section RVC
variable {h h1 h2 : am_H} {d : Nat} {r r2 : Int32}
theorem gv_14 (hd : 20 ≤ d) (I : cq_Inv none h) (I1 : cq_Inv none h1) (I2 : cq_Inv none h2) (F1 : cq_Fr ct_14.2.2.2.1 h h1) (F2 : cq_Fr ct_162.2.2.2.1 h1 h2) (B : rbV h2) {w1 w2 w3 w4 w5 : Int32} (e1 : am_ev d 14 0 (am_ent [.ref 40, .int w1, .int w2, .int w3, .int w4, .int w5] (am_in 14).2.2.1) [] h (some (.int r), h1)) (e2 : am_ev d 162 0 (am_ent [.ref 78, .int w1, .int w2, .int w3, .int w4, .int w5] (am_in 162).2.2.1) [] h1 (some (.int r2), h2)) (X : rY h) : rY h2 := by
  have n2 := n4_5 (B := 0) ok_162 rfl rfl (by decide +kernel) I1 (Nat.le_trans (by decide +kernel) hd) e2
  have g2 := rb_r B
  have g1 := rg_b I1 F2 (by decide +kernel) g2
  have n1 := n4_5 (B := 0) ok_14 rfl rfl (by decide +kernel) I (Nat.le_trans (by decide +kernel) hd) e1
  have X1 := gv_fr I I1 F1 n1 (by decide +kernel) g1 X
  exact gv_fr I1 I2 F2 n2 (by decide +kernel) g2 X1
theorem gv_18 (hd : 20 ≤ d) (I : cq_Inv none h) (I1 : cq_Inv none h1) (I2 : cq_Inv none h2) (F1 : cq_Fr ct_18.2.2.2.1 h h1) (F2 : cq_Fr ct_167.2.2.2.1 h1 h2) (B : rbV h2) (e1 : am_ev d 18 0 (am_ent [.ref 40] (am_in 18).2.2.1) [] h (some (.int r), h1)) (e2 : am_ev d 167 0 (am_ent [.ref 78] (am_in 167).2.2.1) [] h1 (some (.int r2), h2)) (X : rY h) : rY h2 := by
  have n2 := n4_0 (B := 0) ok_167 rfl rfl (by decide +kernel) I1 (Nat.le_trans (by decide +kernel) hd) e2
  have g2 := rb_r B
  have g1 := rg_b I1 F2 (by decide +kernel) g2
  have n1 := n4_0 (B := 0) ok_18 rfl rfl (by decide +kernel) I (Nat.le_trans (by decide +kernel) hd) e1
  have X1 := gv_fr I I1 F1 n1 (by decide +kernel) g1 X
  exact gv_fr I1 I2 F2 n2 (by decide +kernel) g2 X1
theorem gv_38 (hd : 20 ≤ d) (I : cq_Inv none h) (I1 : cq_Inv none h1) (I2 : cq_Inv none h2) (F1 : cq_Fr ct_38.2.2.2.1 h h1) (F2 : cq_Fr ct_185.2.2.2.1 h1 h2) (B : rbV h2) {w1 w2 w3 w4 : Int32} (e1 : am_ev d 38 0 (am_ent [.ref 40, .int w1, .int w2, .int w3, .int w4] (am_in 38).2.2.1) [] h (some (.int r), h1)) (e2 : am_ev d 185 0 (am_ent [.ref 78, .int w1, .int w2, .int w3, .int w4] (am_in 185).2.2.1) [] h1 (some (.int r2), h2)) (X : rY h) : rY h2 := by
  have n2 := n4_4 (B := 0) ok_185 rfl rfl (by decide +kernel) I1 (Nat.le_trans (by decide +kernel) hd) e2
  have g2 := rb_r B
  have g1 := rg_b I1 F2 (by decide +kernel) g2
  obtain ⟨K, ⟨W, XX⟩, Z⟩ := X
  obtain ⟨W', q'⟩ := hy_go W (fS.of I) (by decide +kernel) (by decide +kernel) (n_40 rfl) e1 g1
  obtain ⟨m0, v8, -⟩ := ax_in I (c := 40) (j := 8) (l := 0) (u := 40) (by decide +kernel) (by decide +kernel)
  obtain ⟨d', rfl⟩ : ∃ d', d = d' + 2 := ⟨d - 2, by omega⟩
  obtain ⟨kz, kx⟩ := po_keep I F1 (eS.oy W q') e1 v8
  have X1 : rY h1 := ⟨rK_fr I F1 (by decide +kernel) K, ⟨W', kx XX⟩, kz Z⟩
  exact gv_fr I1 I2 F2 n2 (by decide +kernel) g2 X1
theorem gv_41 (hd : 20 ≤ d) (I : cq_Inv none h) (I1 : cq_Inv none h1) (I2 : cq_Inv none h2) (F1 : cq_Fr ct_41.2.2.2.1 h h1) (F2 : cq_Fr ct_187.2.2.2.1 h1 h2) (B : rbV h2) {w1 w2 w3 : Int32} (e1 : am_ev d 41 0 (am_ent [.ref 40, .int w1, .int w2, .int w3] (am_in 41).2.2.1) [] h (some (.int r), h1)) (e2 : am_ev d 187 0 (am_ent [.ref 78, .int w1, .int w2, .int w3] (am_in 187).2.2.1) [] h1 (some (.int r2), h2)) (X : rY h) : rY h2 := by
  have n2 := n4_3 (B := 0) ok_187 rfl rfl (by decide +kernel) I1 (Nat.le_trans (by decide +kernel) hd) e2
  have g2 := rb_r B
  have g1 := rg_b I1 F2 (by decide +kernel) g2
  have X1 := gv_hy I F1 (by decide +kernel) (by decide +kernel) (n := rfl) e1 (by decide +kernel) g1 X
  exact gv_fr I1 I2 F2 n2 (by decide +kernel) g2 X1
theorem gv_51 (hd : 20 ≤ d) (I : cq_Inv none h) (I1 : cq_Inv none h1) (I2 : cq_Inv none h2) (F1 : cq_Fr ct_51.2.2.2.1 h h1) (F2 : cq_Fr ct_195.2.2.2.1 h1 h2) (B : rbV h2) {w1 w2 w3 : Int32} (e1 : am_ev d 51 0 (am_ent [.ref 40, .int w1, .int w2, .int w3] (am_in 51).2.2.1) [] h (some (.int r), h1)) (e2 : am_ev d 195 0 (am_ent [.ref 78, .int w1, .int w2, .int w3] (am_in 195).2.2.1) [] h1 (some (.int r2), h2)) (X : rY h) : rY h2 := by
  have n2 := n4_3 (B := 0) ok_195 rfl rfl (by decide +kernel) I1 (Nat.le_trans (by decide +kernel) hd) e2
  have g2 := rb_r B
  have g1 := rg_b I1 F2 (by decide +kernel) g2
  have X1 := gv_hx I F1 (by decide +kernel) (Nat.le_trans (by decide +kernel) hd) (n := rfl) e1 (by decide +kernel) X
  exact gv_fr I1 I2 F2 n2 (by decide +kernel) g2 X1
theorem gv_65 (hd : 20 ≤ d) (I : cq_Inv none h) (I1 : cq_Inv none h1) (I2 : cq_Inv none h2) (F1 : cq_Fr ct_65.2.2.2.1 h h1) (F2 : cq_Fr ct_202.2.2.2.1 h1 h2) (B : rbV h2) {w1 w2 w3 : Int32} (e1 : am_ev d 65 0 (am_ent [.ref 40, .int w1, .int w2, .int w3] (am_in 65).2.2.1) [] h (some (.int r), h1)) (e2 : am_ev d 202 0 (am_ent [.ref 78, .int w1, .int w2, .int w3] (am_in 202).2.2.1) [] h1 (some (.int r2), h2)) (X : rY h) : rY h2 := by
  have n2 := n4_3 (B := 0) ok_202 rfl rfl (by decide +kernel) I1 (Nat.le_trans (by decide +kernel) hd) e2
  have g2 := rb_r B
  have g1 := rg_b I1 F2 (by decide +kernel) g2
  have X1 := gv_hx I F1 (by decide +kernel) (Nat.le_trans (by decide +kernel) hd) (n := rfl) e1 (by decide +kernel) X
  exact gv_fr I1 I2 F2 n2 (by decide +kernel) g2 X1
theorem gv_67 (hd : 20 ≤ d) (I : cq_Inv none h) (I1 : cq_Inv none h1) (I2 : cq_Inv none h2) (F1 : cq_Fr ct_67.2.2.2.1 h h1) (F2 : cq_Fr ct_204.2.2.2.1 h1 h2) (B : rbV h2) {w1 w2 w3 : Int32} (e1 : am_ev d 67 0 (am_ent [.ref 40, .int w1, .int w2, .int w3] (am_in 67).2.2.1) [] h (some (.int r), h1)) (e2 : am_ev d 204 0 (am_ent [.ref 78, .int w1, .int w2, .int w3] (am_in 204).2.2.1) [] h1 (some (.int r2), h2)) (X : rY h) : rY h2 := by
  have n2 := n4_3 (B := 0) ok_204 rfl rfl (by decide +kernel) I1 (Nat.le_trans (by decide +kernel) hd) e2
  have g2 := rb_r B
  have g1 := rg_b I1 F2 (by decide +kernel) g2
  have X1 := gv_hx I F1 (by decide +kernel) (Nat.le_trans (by decide +kernel) hd) (n := rfl) e1 (by decide +kernel) X
  exact gv_fr I1 I2 F2 n2 (by decide +kernel) g2 X1
theorem gv_73 (hd : 20 ≤ d) (I : cq_Inv none h) (I1 : cq_Inv none h1) (I2 : cq_Inv none h2) (F1 : cq_Fr ct_73.2.2.2.1 h h1) (F2 : cq_Fr ct_207.2.2.2.1 h1 h2) (B : rbV h2) {w1 w2 : Int32} (e1 : am_ev d 73 0 (am_ent [.ref 40, .int w1, .int w2] (am_in 73).2.2.1) [] h (some (.int r), h1)) (e2 : am_ev d 207 0 (am_ent [.ref 78, .int w1, .int w2] (am_in 207).2.2.1) [] h1 (some (.int r2), h2)) (X : rY h) : rY h2 := by
  have n2 := n4_2 (B := 0) ok_207 rfl rfl (by decide +kernel) I1 (Nat.le_trans (by decide +kernel) hd) e2
  have g2 := rb_r B
  have g1 := rg_b I1 F2 (by decide +kernel) g2
  have X1 := gv_hx I F1 (by decide +kernel) (Nat.le_trans (by decide +kernel) hd) (n := rfl) e1 (by decide +kernel) X
  exact gv_fr I1 I2 F2 n2 (by decide +kernel) g2 X1
theorem gv_74 (hd : 20 ≤ d) (I : cq_Inv none h) (I1 : cq_Inv none h1) (I2 : cq_Inv none h2) (F1 : cq_Fr ct_74.2.2.2.1 h h1) (F2 : cq_Fr ct_208.2.2.2.1 h1 h2) (B : rbV h2) {w1 : Int32} (e1 : am_ev d 74 0 (am_ent [.ref 40, .int w1] (am_in 74).2.2.1) [] h (some (.int r), h1)) (e2 : am_ev d 208 0 (am_ent [.ref 78, .int w1] (am_in 208).2.2.1) [] h1 (some (.int r2), h2)) (X : rY h) : rY h2 := by
  have n2 := n4_1 (B := 0) ok_208 rfl rfl (by decide +kernel) I1 (Nat.le_trans (by decide +kernel) hd) e2
  have g2 := rb_r B
  have g1 := rg_b I1 F2 (by decide +kernel) g2
  have X1 := gv_hy I F1 (by decide +kernel) (by decide +kernel) (n := rfl) e1 (by decide +kernel) g1 X
  exact gv_fr I1 I2 F2 n2 (by decide +kernel) g2 X1
theorem gv_89 (hd : 20 ≤ d) (I : cq_Inv none h) (I1 : cq_Inv none h1) (I2 : cq_Inv none h2) (F1 : cq_Fr ct_89.2.2.2.1 h h1) (F2 : cq_Fr ct_215.2.2.2.1 h1 h2) (B : rbV h2) {w1 w2 : Int32} (e1 : am_ev d 89 0 (am_ent [.ref 40, .int w1, .int w2] (am_in 89).2.2.1) [] h (some (.int r), h1)) (e2 : am_ev d 215 0 (am_ent [.ref 78, .int w1, .int w2] (am_in 215).2.2.1) [] h1 (some (.int r2), h2)) (X : rY h) : rY h2 := by
  have n2 := n4_2 (B := 0) ok_215 rfl rfl (by decide +kernel) I1 (Nat.le_trans (by decide +kernel) hd) e2
  have g2 := rb_r B
  have g1 := rg_b I1 F2 (by decide +kernel) g2
  have X1 := gv_hy I F1 (by decide +kernel) (by decide +kernel) (n := rfl) e1 (by decide +kernel) g1 X
  exact gv_fr I1 I2 F2 n2 (by decide +kernel) g2 X1
theorem gv_101 (hd : 20 ≤ d) (I : cq_Inv none h) (I1 : cq_Inv none h1) (I2 : cq_Inv none h2) (F1 : cq_Fr ct_101.2.2.2.1 h h1) (F2 : cq_Fr ct_225.2.2.2.1 h1 h2) (B : rbV h2) {w1 : Int32} (e1 : am_ev d 101 0 (am_ent [.ref 40, .int w1] (am_in 101).2.2.1) [] h (some (.int r), h1)) (e2 : am_ev d 225 0 (am_ent [.ref 78, .int w1] (am_in 225).2.2.1) [] h1 (some (.int r2), h2)) (X : rY h) : rY h2 := by
  have n2 := n4_1 (B := 0) ok_225 rfl rfl (by decide +kernel) I1 (Nat.le_trans (by decide +kernel) hd) e2
  have g2 := rb_r B
  have g1 := rg_b I1 F2 (by decide +kernel) g2
  have X1 := gv_hy I F1 (by decide +kernel) (by decide +kernel) (n := rfl) e1 (by decide +kernel) g1 X
  exact gv_fr I1 I2 F2 n2 (by decide +kernel) g2 X1
theorem gv_103 (hd : 20 ≤ d) (I : cq_Inv none h) (I1 : cq_Inv none h1) (I2 : cq_Inv none h2) (F1 : cq_Fr ct_103.2.2.2.1 h h1) (F2 : cq_Fr ct_226.2.2.2.1 h1 h2) (B : rbV h2) {w1 w2 : Int32} (e1 : am_ev d 103 0 (am_ent [.ref 40, .int w1, .int w2] (am_in 103).2.2.1) [] h (some (.int r), h1)) (e2 : am_ev d 226 0 (am_ent [.ref 78, .int w1, .int w2] (am_in 226).2.2.1) [] h1 (some (.int r2), h2)) (X : rY h) : rY h2 := by
  have n2 := n4_2 (B := 0) ok_226 rfl rfl (by decide +kernel) I1 (Nat.le_trans (by decide +kernel) hd) e2
  have g2 := rb_r B
  have g1 := rg_b I1 F2 (by decide +kernel) g2
  have X1 := gv_hx I F1 (by decide +kernel) (Nat.le_trans (by decide +kernel) hd) (n := rfl) e1 (by decide +kernel) X
  exact gv_fr I1 I2 F2 n2 (by decide +kernel) g2 X1
theorem gv_106 (hd : 20 ≤ d) (I : cq_Inv none h) (I1 : cq_Inv none h1) (I2 : cq_Inv none h2) (F1 : cq_Fr ct_106.2.2.2.1 h h1) (F2 : cq_Fr ct_234.2.2.2.1 h1 h2) (B : rbV h2) (e1 : am_ev d 106 0 (am_ent [.ref 40] (am_in 106).2.2.1) [] h (some (.int r), h1)) (e2 : am_ev d 234 0 (am_ent [.ref 78] (am_in 234).2.2.1) [] h1 (some (.int r2), h2)) (X : rY h) : rY h2 := by
  have n2 := n4_0 (B := 0) ok_234 rfl rfl (by decide +kernel) I1 (Nat.le_trans (by decide +kernel) hd) e2
  have g2 := rb_r B
  have g1 := rg_b I1 F2 (by decide +kernel) g2
  have X1 := gv_hx I F1 (by decide +kernel) (Nat.le_trans (by decide +kernel) hd) (n := rfl) e1 (by decide +kernel) X
  exact gv_fr I1 I2 F2 n2 (by decide +kernel) g2 X1
theorem gv_115 (hd : 20 ≤ d) (I : cq_Inv none h) (I1 : cq_Inv none h1) (I2 : cq_Inv none h2) (F1 : cq_Fr ct_115.2.2.2.1 h h1) (F2 : cq_Fr ct_238.2.2.2.1 h1 h2) (B : rbV h2) {w1 : Int32} (e1 : am_ev d 115 0 (am_ent [.ref 40, .int w1] (am_in 115).2.2.1) [] h (some (.int r), h1)) (e2 : am_ev d 238 0 (am_ent [.ref 78, .int w1] (am_in 238).2.2.1) [] h1 (some (.int r2), h2)) (X : rY h) : rY h2 := by
  have n2 := n4_1 (B := 0) ok_238 rfl rfl (by decide +kernel) I1 (Nat.le_trans (by decide +kernel) hd) e2
  have g2 := rb_r B
  have g1 := rg_b I1 F2 (by decide +kernel) g2
  have X1 := gv_hx I F1 (by decide +kernel) (Nat.le_trans (by decide +kernel) hd) (n := rfl) e1 (by decide +kernel) X
  exact gv_fr I1 I2 F2 n2 (by decide +kernel) g2 X1
theorem gv_118 (hd : 20 ≤ d) (I : cq_Inv none h) (I1 : cq_Inv none h1) (I2 : cq_Inv none h2) (F1 : cq_Fr ct_118.2.2.2.1 h h1) (F2 : cq_Fr ct_239.2.2.2.1 h1 h2) (B : rbV h2) {w1 : Int32} (e1 : am_ev d 118 0 (am_ent [.ref 40, .int w1] (am_in 118).2.2.1) [] h (some (.int r), h1)) (e2 : am_ev d 239 0 (am_ent [.ref 78, .int w1] (am_in 239).2.2.1) [] h1 (some (.int r2), h2)) (X : rY h) : rY h2 := by
  have n2 := n4_1 (B := 0) ok_239 rfl rfl (by decide +kernel) I1 (Nat.le_trans (by decide +kernel) hd) e2
  have g2 := rb_r B
  have g1 := rg_b I1 F2 (by decide +kernel) g2
  have X1 := gv_hx I F1 (by decide +kernel) (Nat.le_trans (by decide +kernel) hd) (n := rfl) e1 (by decide +kernel) X
  exact gv_fr I1 I2 F2 n2 (by decide +kernel) g2 X1
theorem gv_128 (hd : 20 ≤ d) (I : cq_Inv none h) (I1 : cq_Inv none h1) (I2 : cq_Inv none h2) (F1 : cq_Fr ct_128.2.2.2.1 h h1) (F2 : cq_Fr ct_247.2.2.2.1 h1 h2) (B : rbV h2) (e1 : am_ev d 128 0 (am_ent [.ref 40] (am_in 128).2.2.1) [] h (some (.int r), h1)) (e2 : am_ev d 247 0 (am_ent [.ref 78] (am_in 247).2.2.1) [] h1 (some (.int r2), h2)) (X : rY h) : rY h2 := by
  have n2 := n4_0 (B := 0) ok_247 rfl rfl (by decide +kernel) I1 (Nat.le_trans (by decide +kernel) hd) e2
  have g2 := rb_r B
  have g1 := rg_b I1 F2 (by decide +kernel) g2
  have X1 := gv_hx I F1 (by decide +kernel) (Nat.le_trans (by decide +kernel) hd) (n := rfl) e1 (by decide +kernel) X
  exact gv_fr I1 I2 F2 n2 (by decide +kernel) g2 X1
theorem gv_132 (hd : 20 ≤ d) (I : cq_Inv none h) (I1 : cq_Inv none h1) (I2 : cq_Inv none h2) (F1 : cq_Fr ct_132.2.2.2.1 h h1) (F2 : cq_Fr ct_248.2.2.2.1 h1 h2) (B : rbV h2) {w1 w2 : Int32} (e1 : am_ev d 132 0 (am_ent [.ref 40, .int w1, .int w2] (am_in 132).2.2.1) [] h (some (.int r), h1)) (e2 : am_ev d 248 0 (am_ent [.ref 78, .int w1, .int w2] (am_in 248).2.2.1) [] h1 (some (.int r2), h2)) (X : rY h) : rY h2 := by
  have n2 := n4_2 (B := 0) ok_248 rfl rfl (by decide +kernel) I1 (Nat.le_trans (by decide +kernel) hd) e2
  have g2 := rb_r B
  have g1 := rg_b I1 F2 (by decide +kernel) g2
  have X1 := gv_hx I F1 (by decide +kernel) (Nat.le_trans (by decide +kernel) hd) (n := rfl) e1 (by decide +kernel) X
  exact gv_fr I1 I2 F2 n2 (by decide +kernel) g2 X1
theorem gv_135 (hd : 20 ≤ d) (I : cq_Inv none h) (I1 : cq_Inv none h1) (I2 : cq_Inv none h2) (F1 : cq_Fr ct_135.2.2.2.1 h h1) (F2 : cq_Fr ct_250.2.2.2.1 h1 h2) (B : rbV h2) {w1 : Int32} (e1 : am_ev d 135 0 (am_ent [.ref 40, .int w1] (am_in 135).2.2.1) [] h (some (.int r), h1)) (e2 : am_ev d 250 0 (am_ent [.ref 78, .int w1] (am_in 250).2.2.1) [] h1 (some (.int r2), h2)) (X : rY h) : rY h2 := by
  have n2 := n4_1 (B := 0) ok_250 rfl rfl (by decide +kernel) I1 (Nat.le_trans (by decide +kernel) hd) e2
  have g2 := rb_r B
  have g1 := rg_b I1 F2 (by decide +kernel) g2
  have X1 := gv_hx I F1 (by decide +kernel) (Nat.le_trans (by decide +kernel) hd) (n := rfl) e1 (by decide +kernel) X
  exact gv_fr I1 I2 F2 n2 (by decide +kernel) g2 X1
theorem gv_136 (hd : 20 ≤ d) (I : cq_Inv none h) (I1 : cq_Inv none h1) (I2 : cq_Inv none h2) (F1 : cq_Fr ct_136.2.2.2.1 h h1) (F2 : cq_Fr ct_251.2.2.2.1 h1 h2) (B : rbV h2) {w1 : Int32} (e1 : am_ev d 136 0 (am_ent [.ref 40, .int w1] (am_in 136).2.2.1) [] h (some (.int r), h1)) (e2 : am_ev d 251 0 (am_ent [.ref 78, .int w1] (am_in 251).2.2.1) [] h1 (some (.int r2), h2)) (X : rY h) : rY h2 := by
  have n2 := n4_1 (B := 0) ok_251 rfl rfl (by decide +kernel) I1 (Nat.le_trans (by decide +kernel) hd) e2
  have g2 := rb_r B
  have g1 := rg_b I1 F2 (by decide +kernel) g2
  have X1 := gv_hx I F1 (by decide +kernel) (Nat.le_trans (by decide +kernel) hd) (n := rfl) e1 (by decide +kernel) X
  exact gv_fr I1 I2 F2 n2 (by decide +kernel) g2 X1
theorem gv_142 (hd : 20 ≤ d) (I : cq_Inv none h) (I1 : cq_Inv none h1) (I2 : cq_Inv none h2) (F1 : cq_Fr ct_142.2.2.2.1 h h1) (F2 : cq_Fr ct_253.2.2.2.1 h1 h2) (B : rbV h2) {w1 : Int32} (e1 : am_ev d 142 0 (am_ent [.ref 40, .int w1] (am_in 142).2.2.1) [] h (some (.int r), h1)) (e2 : am_ev d 253 0 (am_ent [.ref 78, .int w1] (am_in 253).2.2.1) [] h1 (some (.int r2), h2)) (X : rY h) : rY h2 := by
  have n2 := n4_1 (B := 0) ok_253 rfl rfl (by decide +kernel) I1 (Nat.le_trans (by decide +kernel) hd) e2
  have g2 := rb_r B
  have g1 := rg_b I1 F2 (by decide +kernel) g2
  have X1 := gv_hx I F1 (by decide +kernel) (Nat.le_trans (by decide +kernel) hd) (n := rfl) e1 (by decide +kernel) X
  exact gv_fr I1 I2 F2 n2 (by decide +kernel) g2 X1
theorem gv_151 (hd : 20 ≤ d) (I : cq_Inv none h) (I1 : cq_Inv none h1) (I2 : cq_Inv none h2) (F1 : cq_Fr ct_151.2.2.2.1 h h1) (F2 : cq_Fr ct_258.2.2.2.1 h1 h2) (B : rbV h2) {w1 : Int32} (e1 : am_ev d 151 0 (am_ent [.ref 40, .int w1] (am_in 151).2.2.1) [] h (some (.int r), h1)) (e2 : am_ev d 258 0 (am_ent [.ref 78, .int w1] (am_in 258).2.2.1) [] h1 (some (.int r2), h2)) (X : rY h) : rY h2 := by
  have n2 := n4_1 (B := 0) ok_258 rfl rfl (by decide +kernel) I1 (Nat.le_trans (by decide +kernel) hd) e2
  have g2 := rb_r B
  have g1 := rg_b I1 F2 (by decide +kernel) g2
  have X1 := gv_hx I F1 (by decide +kernel) (Nat.le_trans (by decide +kernel) hd) (n := rfl) e1 (by decide +kernel) X
  exact gv_fr I1 I2 F2 n2 (by decide +kernel) g2 X1
theorem gv_16 (hd : 20 ≤ d) (I : cq_Inv none h) (I1 : cq_Inv none h1) (I2 : cq_Inv none h2) (F1 : cq_Fr ct_16.2.2.2.1 h h1) (F2 : cq_Fr ct_164.2.2.2.1 h1 h2) (B : rbV h2) {w1 : Int32} (e1 : am_ev d 16 0 (am_ent [.ref 40, .int w1] (am_in 16).2.2.1) [] h (some (.int r), h1)) (e2 : am_ev d 164 0 (am_ent [.ref 78, .int w1] (am_in 164).2.2.1) [] h1 (some (.int r2), h2)) (X : rY h) : rY h2 := by
  have n2 := n4_1 (B := 0) ok_164 rfl rfl (by decide +kernel) I1 (Nat.le_trans (by decide +kernel) hd) e2
  have g2 := rb_r B
  have g1 := rg_b I1 F2 (by decide +kernel) g2
  have n1 := n4_1 (B := 0) ok_16 rfl rfl (by decide +kernel) I (Nat.le_trans (by decide +kernel) hd) e1
  have X1 := gv_fr I I1 F1 n1 (by decide +kernel) g1 X
  exact gv_fr I1 I2 F2 n2 (by decide +kernel) g2 X1
theorem gv_17 (hd : 20 ≤ d) (I : cq_Inv none h) (I1 : cq_Inv none h1) (I2 : cq_Inv none h2) (F1 : cq_Fr ct_17.2.2.2.1 h h1) (F2 : cq_Fr ct_166.2.2.2.1 h1 h2) (B : rbV h2) {w1 : Int32} (e1 : am_ev d 17 0 (am_ent [.ref 40, .int w1] (am_in 17).2.2.1) [] h (some (.int r), h1)) (e2 : am_ev d 166 0 (am_ent [.ref 78, .int w1] (am_in 166).2.2.1) [] h1 (some (.int r2), h2)) (X : rY h) : rY h2 := by
  have n2 := n4_1 (B := 0) ok_166 rfl rfl (by decide +kernel) I1 (Nat.le_trans (by decide +kernel) hd) e2
  have g2 := rb_r B
  have g1 := rg_b I1 F2 (by decide +kernel) g2
  have n1 := n4_1 (B := 0) ok_17 rfl rfl (by decide +kernel) I (Nat.le_trans (by decide +kernel) hd) e1
  have X1 := gv_fr I I1 F1 n1 (by decide +kernel) g1 X
  exact gv_fr I1 I2 F2 n2 (by decide +kernel) g2 X1
theorem gv_34 (hd : 20 ≤ d) (I : cq_Inv none h) (I1 : cq_Inv none h1) (I2 : cq_Inv none h2) (F1 : cq_Fr ct_34.2.2.2.1 h h1) (F2 : cq_Fr ct_183.2.2.2.1 h1 h2) (B : rbV h2) {w1 : Int32} (e1 : am_ev d 34 0 (am_ent [.ref 40, .int w1] (am_in 34).2.2.1) [] h (some (.int r), h1)) (e2 : am_ev d 183 0 (am_ent [.ref 78, .int w1] (am_in 183).2.2.1) [] h1 (some (.int r2), h2)) (X : rY h) : rY h2 := by
  have n2 := n4_1 (B := 0) ok_183 rfl rfl (by decide +kernel) I1 (Nat.le_trans (by decide +kernel) hd) e2
  have g2 := rb_r B
  have g1 := rg_b I1 F2 (by decide +kernel) g2
  have n1 := n4_1 (B := 0) ok_34 rfl rfl (by decide +kernel) I (Nat.le_trans (by decide +kernel) hd) e1
  have X1 := gv_fr I I1 F1 n1 (by decide +kernel) g1 X
  exact gv_fr I1 I2 F2 n2 (by decide +kernel) g2 X1
theorem gv_35 (hd : 20 ≤ d) (I : cq_Inv none h) (I1 : cq_Inv none h1) (I2 : cq_Inv none h2) (F1 : cq_Fr ct_35.2.2.2.1 h h1) (F2 : cq_Fr ct_184.2.2.2.1 h1 h2) (B : rbV h2) {w1 : Int32} (e1 : am_ev d 35 0 (am_ent [.ref 40, .int w1] (am_in 35).2.2.1) [] h (some (.int r), h1)) (e2 : am_ev d 184 0 (am_ent [.ref 78, .int w1] (am_in 184).2.2.1) [] h1 (some (.int r2), h2)) (X : rY h) : rY h2 := by
  have n2 := n4_1 (B := 0) ok_184 rfl rfl (by decide +kernel) I1 (Nat.le_trans (by decide +kernel) hd) e2
  have g2 := rb_r B
  have g1 := rg_b I1 F2 (by decide +kernel) g2
  have n1 := n4_1 (B := 0) ok_35 rfl rfl (by decide +kernel) I (Nat.le_trans (by decide +kernel) hd) e1
  have X1 := gv_fr I I1 F1 n1 (by decide +kernel) g1 X
  exact gv_fr I1 I2 F2 n2 (by decide +kernel) g2 X1
theorem gv_86 (hd : 20 ≤ d) (I : cq_Inv none h) (I1 : cq_Inv none h1) (I2 : cq_Inv none h2) (F1 : cq_Fr ct_86.2.2.2.1 h h1) (F2 : cq_Fr ct_213.2.2.2.1 h1 h2) (B : rbV h2) {w1 w2 : Int32} (e1 : am_ev d 86 0 (am_ent [.ref 40, .int w1, .int w2] (am_in 86).2.2.1) [] h (some (.int r), h1)) (e2 : am_ev d 213 0 (am_ent [.ref 78, .int w1, .int w2] (am_in 213).2.2.1) [] h1 (some (.int r2), h2)) (X : rY h) : rY h2 := by
  have n2 := n4_2 (B := 0) ok_213 rfl rfl (by decide +kernel) I1 (Nat.le_trans (by decide +kernel) hd) e2
  have g2 := rb_r B
  have g1 := rg_b I1 F2 (by decide +kernel) g2
  have n1 := n4_2 (B := 0) ok_86 rfl rfl (by decide +kernel) I (Nat.le_trans (by decide +kernel) hd) e1
  have X1 := gv_fr I I1 F1 n1 (by decide +kernel) g1 X
  exact gv_fr I1 I2 F2 n2 (by decide +kernel) g2 X1
theorem gv_90 (hd : 20 ≤ d) (I : cq_Inv none h) (I1 : cq_Inv none h1) (I2 : cq_Inv none h2) (F1 : cq_Fr ct_90.2.2.2.1 h h1) (F2 : cq_Fr ct_217.2.2.2.1 h1 h2) (B : rbV h2) {w1 w2 : Int32} (e1 : am_ev d 90 0 (am_ent [.ref 40, .int w1, .int w2] (am_in 90).2.2.1) [] h (some (.int r), h1)) (e2 : am_ev d 217 0 (am_ent [.ref 78, .int w1, .int w2] (am_in 217).2.2.1) [] h1 (some (.int r2), h2)) (X : rY h) : rY h2 := by
  have n2 := n4_2 (B := 0) ok_217 rfl rfl (by decide +kernel) I1 (Nat.le_trans (by decide +kernel) hd) e2
  have g2 := rb_r B
  have g1 := rg_b I1 F2 (by decide +kernel) g2
  have n1 := n4_2 (B := 0) ok_90 rfl rfl (by decide +kernel) I (Nat.le_trans (by decide +kernel) hd) e1
  have X1 := gv_fr I I1 F1 n1 (by decide +kernel) g1 X
  exact gv_fr I1 I2 F2 n2 (by decide +kernel) g2 X1
theorem gv_92 (hd : 20 ≤ d) (I : cq_Inv none h) (I1 : cq_Inv none h1) (I2 : cq_Inv none h2) (F1 : cq_Fr ct_92.2.2.2.1 h h1) (F2 : cq_Fr ct_218.2.2.2.1 h1 h2) (B : rbV h2) {w1 w2 w3 w4 : Int32} (e1 : am_ev d 92 0 (am_ent [.ref 40, .int w1, .int w2, .int w3, .int w4] (am_in 92).2.2.1) [] h (some (.int r), h1)) (e2 : am_ev d 218 0 (am_ent [.ref 78, .int w1, .int w2, .int w3, .int w4] (am_in 218).2.2.1) [] h1 (some (.int r2), h2)) (X : rY h) : rY h2 := by
  have n2 := n4_4 (B := 0) ok_218 rfl rfl (by decide +kernel) I1 (Nat.le_trans (by decide +kernel) hd) e2
  have g2 := rb_r B
  have g1 := rg_b I1 F2 (by decide +kernel) g2
  have n1 := n4_4 (B := 0) ok_92 rfl rfl (by decide +kernel) I (Nat.le_trans (by decide +kernel) hd) e1
  have X1 := gv_fr I I1 F1 n1 (by decide +kernel) g1 X
  exact gv_fr I1 I2 F2 n2 (by decide +kernel) g2 X1
theorem gv_98 (hd : 20 ≤ d) (I : cq_Inv none h) (I1 : cq_Inv none h1) (I2 : cq_Inv none h2) (F1 : cq_Fr ct_98.2.2.2.1 h h1) (F2 : cq_Fr ct_223.2.2.2.1 h1 h2) (B : rbV h2) {w1 w2 : Int32} (e1 : am_ev d 98 0 (am_ent [.ref 40, .int w1, .int w2] (am_in 98).2.2.1) [] h (some (.int r), h1)) (e2 : am_ev d 223 0 (am_ent [.ref 78, .int w1, .int w2] (am_in 223).2.2.1) [] h1 (some (.int r2), h2)) (X : rY h) : rY h2 := by
  have n2 := n4_2 (B := 0) ok_223 rfl rfl (by decide +kernel) I1 (Nat.le_trans (by decide +kernel) hd) e2
  have g2 := rb_r B
  have g1 := rg_b I1 F2 (by decide +kernel) g2
  have n1 := n4_2 (B := 0) ok_98 rfl rfl (by decide +kernel) I (Nat.le_trans (by decide +kernel) hd) e1
  have X1 := gv_fr I I1 F1 n1 (by decide +kernel) g1 X
  exact gv_fr I1 I2 F2 n2 (by decide +kernel) g2 X1
theorem gv_99 (hd : 20 ≤ d) (I : cq_Inv none h) (I1 : cq_Inv none h1) (I2 : cq_Inv none h2) (F1 : cq_Fr ct_99.2.2.2.1 h h1) (F2 : cq_Fr ct_224.2.2.2.1 h1 h2) (B : rbV h2) {w1 w2 : Int32} (e1 : am_ev d 99 0 (am_ent [.ref 40, .int w1, .int w2] (am_in 99).2.2.1) [] h (some (.int r), h1)) (e2 : am_ev d 224 0 (am_ent [.ref 78, .int w1, .int w2] (am_in 224).2.2.1) [] h1 (some (.int r2), h2)) (X : rY h) : rY h2 := by
  have n2 := n4_2 (B := 0) ok_224 rfl rfl (by decide +kernel) I1 (Nat.le_trans (by decide +kernel) hd) e2
  have g2 := rb_r B
  have g1 := rg_b I1 F2 (by decide +kernel) g2
  have n1 := n4_2 (B := 0) ok_99 rfl rfl (by decide +kernel) I (Nat.le_trans (by decide +kernel) hd) e1
  have X1 := gv_fr I I1 F1 n1 (by decide +kernel) g1 X
  exact gv_fr I1 I2 F2 n2 (by decide +kernel) g2 X1
theorem gv_114 (hd : 20 ≤ d) (I : cq_Inv none h) (I1 : cq_Inv none h1) (I2 : cq_Inv none h2) (F1 : cq_Fr ct_114.2.2.2.1 h h1) (F2 : cq_Fr ct_237.2.2.2.1 h1 h2) (B : rbV h2) (e1 : am_ev d 114 0 (am_ent [.ref 40] (am_in 114).2.2.1) [] h (some (.int r), h1)) (e2 : am_ev d 237 0 (am_ent [.ref 78] (am_in 237).2.2.1) [] h1 (some (.int r2), h2)) (X : rY h) : rY h2 := by
  have n2 := n4_0 (B := 0) ok_237 rfl rfl (by decide +kernel) I1 (Nat.le_trans (by decide +kernel) hd) e2
  have g2 := rb_r B
  have g1 := rg_b I1 F2 (by decide +kernel) g2
  have n1 := n4_0 (B := 0) ok_114 rfl rfl (by decide +kernel) I (Nat.le_trans (by decide +kernel) hd) e1
  have X1 := gv_fr I I1 F1 n1 (by decide +kernel) g1 X
  exact gv_fr I1 I2 F2 n2 (by decide +kernel) g2 X1
theorem gv_149 (hd : 20 ≤ d) (I : cq_Inv none h) (I1 : cq_Inv none h1) (I2 : cq_Inv none h2) (F1 : cq_Fr ct_149.2.2.2.1 h h1) (F2 : cq_Fr ct_257.2.2.2.1 h1 h2) (B : rbV h2) {w1 : Int32} (e1 : am_ev d 149 0 (am_ent [.ref 40, .int w1] (am_in 149).2.2.1) [] h (some (.int r), h1)) (e2 : am_ev d 257 0 (am_ent [.ref 78, .int w1] (am_in 257).2.2.1) [] h1 (some (.int r2), h2)) (X : rY h) : rY h2 := by
  have n2 := n4_1 (B := 0) ok_257 rfl rfl (by decide +kernel) I1 (Nat.le_trans (by decide +kernel) hd) e2
  have g2 := rb_r B
  have g1 := rg_b I1 F2 (by decide +kernel) g2
  have n1 := n4_1 (B := 0) ok_149 rfl rfl (by decide +kernel) I (Nat.le_trans (by decide +kernel) hd) e1
  have X1 := gv_fr I I1 F1 n1 (by decide +kernel) g1 X
  exact gv_fr I1 I2 F2 n2 (by decide +kernel) g2 X1
theorem gv_156 (hd : 20 ≤ d) (I : cq_Inv none h) (I1 : cq_Inv none h1) (I2 : cq_Inv none h2) (F1 : cq_Fr ct_156.2.2.2.1 h h1) (F2 : cq_Fr ct_259.2.2.2.1 h1 h2) (B : rbV h2) {w1 : Int32} (e1 : am_ev d 156 0 (am_ent [.ref 40, .int w1] (am_in 156).2.2.1) [] h (some (.int r), h1)) (e2 : am_ev d 259 0 (am_ent [.ref 78, .int w1] (am_in 259).2.2.1) [] h1 (some (.int r2), h2)) (X : rY h) : rY h2 := by
  have n2 := n4_1 (B := 0) ok_259 rfl rfl (by decide +kernel) I1 (Nat.le_trans (by decide +kernel) hd) e2
  have g2 := rb_r B
  have g1 := rg_b I1 F2 (by decide +kernel) g2
  have n1 := n4_1 (B := 0) ok_156 rfl rfl (by decide +kernel) I (Nat.le_trans (by decide +kernel) hd) e1
  have X1 := gv_fr I I1 F1 n1 (by decide +kernel) g1 X
  exact gv_fr I1 I2 F2 n2 (by decide +kernel) g2 X1
theorem gv_157 (hd : 20 ≤ d) (I : cq_Inv none h) (I1 : cq_Inv none h1) (I2 : cq_Inv none h2) (F1 : cq_Fr ct_157.2.2.2.1 h h1) (F2 : cq_Fr ct_260.2.2.2.1 h1 h2) (B : rbV h2) {w1 w2 : Int32} (e1 : am_ev d 157 0 (am_ent [.ref 40, .int w1, .int w2] (am_in 157).2.2.1) [] h (some (.int r), h1)) (e2 : am_ev d 260 0 (am_ent [.ref 78, .int w1, .int w2] (am_in 260).2.2.1) [] h1 (some (.int r2), h2)) (X : rY h) : rY h2 := by
  have n2 := n4_2 (B := 0) ok_260 rfl rfl (by decide +kernel) I1 (Nat.le_trans (by decide +kernel) hd) e2
  have g2 := rb_r B
  have g1 := rg_b I1 F2 (by decide +kernel) g2
  have n1 := n4_2 (B := 0) ok_157 rfl rfl (by decide +kernel) I (Nat.le_trans (by decide +kernel) hd) e1
  have X1 := gv_fr I I1 F1 n1 (by decide +kernel) g1 X
  exact gv_fr I1 I2 F2 n2 (by decide +kernel) g2 X1
theorem gv_158 (hd : 20 ≤ d) (I : cq_Inv none h) (I1 : cq_Inv none h1) (I2 : cq_Inv none h2) (F1 : cq_Fr ct_158.2.2.2.1 h h1) (F2 : cq_Fr ct_261.2.2.2.1 h1 h2) (B : rbV h2) {w1 : Int32} (e1 : am_ev d 158 0 (am_ent [.ref 40, .int w1] (am_in 158).2.2.1) [] h (some (.int r), h1)) (e2 : am_ev d 261 0 (am_ent [.ref 78, .int w1] (am_in 261).2.2.1) [] h1 (some (.int r2), h2)) (X : rY h) : rY h2 := by
  have n2 := n4_1 (B := 0) ok_261 rfl rfl (by decide +kernel) I1 (Nat.le_trans (by decide +kernel) hd) e2
  have g2 := rb_r B
  have g1 := rg_b I1 F2 (by decide +kernel) g2
  have n1 := n4_1 (B := 0) ok_158 rfl rfl (by decide +kernel) I (Nat.le_trans (by decide +kernel) hd) e1
  have X1 := gv_fr I I1 F1 n1 (by decide +kernel) g1 X
  exact gv_fr I1 I2 F2 n2 (by decide +kernel) g2 X1
theorem gv_159 (hd : 20 ≤ d) (I : cq_Inv none h) (I1 : cq_Inv none h1) (I2 : cq_Inv none h2) (F1 : cq_Fr ct_159.2.2.2.1 h h1) (F2 : cq_Fr ct_262.2.2.2.1 h1 h2) (B : rbV h2) (e1 : am_ev d 159 0 (am_ent [.ref 40] (am_in 159).2.2.1) [] h (some (.int r), h1)) (e2 : am_ev d 262 0 (am_ent [.ref 78] (am_in 262).2.2.1) [] h1 (some (.int r2), h2)) (X : rY h) : rY h2 := by
  have n2 := n4_0 (B := 0) ok_262 rfl rfl (by decide +kernel) I1 (Nat.le_trans (by decide +kernel) hd) e2
  have g2 := rb_r B
  have g1 := rg_b I1 F2 (by decide +kernel) g2
  have n1 := n4_0 (B := 0) ok_159 rfl rfl (by decide +kernel) I (Nat.le_trans (by decide +kernel) hd) e1
  have X1 := gv_fr I I1 F1 n1 (by decide +kernel) g1 X
  exact gv_fr I1 I2 F2 n2 (by decide +kernel) g2 X1
theorem gv_160 (hd : 20 ≤ d) (I : cq_Inv none h) (I1 : cq_Inv none h1) (I2 : cq_Inv none h2) (F1 : cq_Fr ct_160.2.2.2.1 h h1) (F2 : cq_Fr ct_263.2.2.2.1 h1 h2) (B : rbV h2) {w1 : Int32} (e1 : am_ev d 160 0 (am_ent [.ref 40, .int w1] (am_in 160).2.2.1) [] h (some (.int r), h1)) (e2 : am_ev d 263 0 (am_ent [.ref 78, .int w1] (am_in 263).2.2.1) [] h1 (some (.int r2), h2)) (X : rY h) : rY h2 := by
  have n2 := n4_1 (B := 0) ok_263 rfl rfl (by decide +kernel) I1 (Nat.le_trans (by decide +kernel) hd) e2
  have g2 := rb_r B
  have g1 := rg_b I1 F2 (by decide +kernel) g2
  have n1 := n4_1 (B := 0) ok_160 rfl rfl (by decide +kernel) I (Nat.le_trans (by decide +kernel) hd) e1
  have X1 := gv_fr I I1 F1 n1 (by decide +kernel) g1 X
  exact gv_fr I1 I2 F2 n2 (by decide +kernel) g2 X1
theorem gv_43 (I : cq_Inv none h) (I1 : cq_Inv none h1) (F1 : cq_Fr ct_43.2.2.2.1 h h1) (F2 : cq_Fr ct_189.2.2.2.1 h1 h2) (q : rK h → rbV h → rWW h → rWW h2) (B : rbV h) (X : rY h) : rY h2 := ⟨rK_fr I1 F2 (by decide +kernel) (rK_fr I F1 (by decide +kernel) X.1), q X.1 B X.2⟩
end RVC
/-! calls whose answers are not compared -/
section SGG
variable {h h' : am_H} {d : Nat}
theorem la_128 {r : Int32} (I : cq_Inv none h) (e1 : am_ev (d + 20) 128 0 (am_ent [.ref 40] (am_in 128).2.2.1) [] h (some (.int r), h')) : h'.2.2.2 41 1 = iv 0 := by
  obtain ⟨w, y, ev, Iy, Fy, -, -⟩ := sz_ap0 (A := 0) (B := 0) ok_129 rfl rfl (by decide +kernel) I (d := d + 19) (Nat.le_trans (by decide +kernel) (Nat.le_add_left 19 d))
  have S := fS.of I
  have Sy := fS.of Iy
  have q : am_ev (d + 20) 128 0 (am_ent [.ref 40] (am_in 128).2.2.1) [] h (some (.int w), am_put y 41 1 (iv 0)) := by
    show am_ev (d + 20) 128 0 [.ref 40, am_ph] [] h _
    refine am_ev.step (pc' := 1) rfl rfl ?_
    refine ax_call (z := 129) (p' := 4) (as := [_]) rfl (Or.inr (Or.inl ⟨_, rfl⟩)) rfl rfl rfl rfl rfl rfl (S.ob rfl) rfl ev rfl ?_
    refine am_ev.step (pc' := 5) (ls' := [.ref 40, .int w]) rfl rfl ?_
    refine am_ev.step (pc' := 6) rfl rfl ?_
    refine ax_gf (p' := 9) rfl rfl (Sy.ob rfl) (Sy.rf rfl rfl) ?_
    refine am_ev.step (pc' := 10) rfl rfl ?_
    refine ax_pf (p' := 13) rfl rfl (Sy.ob rfl) rfl ?_
    refine am_ev.step (pc' := 14) rfl rfl ?_
    exact fx_reti rfl rfl rfl
  have e := (Prod.mk.inj (ax_det e1 q)).2
  rw [e]
  exact ax_put_s _ _ _
theorem la_247 {r : Int32} (I : cq_Inv none h) (e1 : am_ev (d + 20) 247 0 (am_ent [.ref 78] (am_in 247).2.2.1) [] h (some (.int r), h')) : h'.2.2.2 78 2 = iv 0 := by
  let ρ : Nat → Int := fun _ => 0
  have gg : cq_gs ρ ct_247.2.1 [.ref 78] := ⟨rfl, trivial⟩
  have M0 : cq_Md ct_247.2.2.2.1 h ρ ct_247.2.2.1 h := cq_Md_p ⟨fun b hb => (by cases hb), fun _ z => (by cases z)⟩ (fun _ z => (by cases z)) (fun _ z => (by cases z)) I
  obtain ⟨r', h2, ev2, x, hx, ρ', a', Mx, hr⟩ := ok_247 (d + 20) h ρ _ (Nat.le_trans (by decide +kernel) (Nat.le_add_left 20 d)) M0 gg
  have e := (Prod.mk.inj (ax_det e1 ev2)).2
  have ex := List.mem_singleton.1 hx
  rw [ex] at Mx
  obtain ⟨x1, z1, z2⟩ := Mx.2.2.2.2.1 ((false, 78), (2, []), (1, (0, []), 0)) (List.mem_singleton.2 rfl)
  have z1 : h2.2.2.2 78 2 = .int x1 := z1
  have z2 : x1.toInt = 0 := z2
  rw [e, z1, fx_of x1, z2]
theorem sg_51 (I : cq_Inv none h) (w1 w2 w3 : Int32) : ∃ (a b : Int32) (h1 h2 : am_H), am_ev (d + 20) 51 0 (am_ent [.ref 40, .int w1, .int w2, .int w3] (am_in 51).2.2.1) [] h (some (.int a), h1) ∧ am_ev (d + 20) 195 0 (am_ent [.ref 78, .int w1, .int w2, .int w3] (am_in 195).2.2.1) [] h1 (some (.int b), h2) ∧ cq_Inv none h1 ∧ cq_Inv none h2 ∧ cq_Fr ct_51.2.2.2.1 h h1 ∧ cq_Fr ct_195.2.2.2.1 h1 h2 ∧ (∀ q ∈ ([] : List (Nat × Nat × Nat × Nat)), tT h2 q) ∧ h2.1 ≤ h.1 + 12 ∧ h2.2.1 ≤ h.2.1 + 624 := by
  obtain ⟨a, h1, e1, I1, F1, A1, B1⟩ := sz_ap3 (A := 0) (B := 0) ok_51 rfl rfl (by decide +kernel) I (d := d + 20) (Nat.le_trans (by decide +kernel) (Nat.le_add_left 20 d)) w1 w2 w3
  obtain ⟨b, h2, e2, I2, F2, A2, B2⟩ := sz_ap3 (A := 0) (B := 0) ok_195 rfl rfl (by decide +kernel) I1 (d := d + 20) (Nat.le_trans (by decide +kernel) (Nat.le_add_left 20 d)) w1 w2 w3
  exact ⟨a, b, h1, h2, e1, e2, I1, I2, F1, F2, fun q hq => (by cases hq), by omega, by omega⟩
theorem sg_65 (I : cq_Inv none h) (w1 w2 w3 : Int32) : ∃ (a b : Int32) (h1 h2 : am_H), am_ev (d + 20) 65 0 (am_ent [.ref 40, .int w1, .int w2, .int w3] (am_in 65).2.2.1) [] h (some (.int a), h1) ∧ am_ev (d + 20) 202 0 (am_ent [.ref 78, .int w1, .int w2, .int w3] (am_in 202).2.2.1) [] h1 (some (.int b), h2) ∧ cq_Inv none h1 ∧ cq_Inv none h2 ∧ cq_Fr ct_65.2.2.2.1 h h1 ∧ cq_Fr ct_202.2.2.2.1 h1 h2 ∧ (∀ q ∈ ([] : List (Nat × Nat × Nat × Nat)), tT h2 q) ∧ h2.1 ≤ h.1 + 12 ∧ h2.2.1 ≤ h.2.1 + 624 := by
  obtain ⟨a, h1, e1, I1, F1, A1, B1⟩ := sz_ap3 (A := 0) (B := 0) ok_65 rfl rfl (by decide +kernel) I (d := d + 20) (Nat.le_trans (by decide +kernel) (Nat.le_add_left 20 d)) w1 w2 w3
  obtain ⟨b, h2, e2, I2, F2, A2, B2⟩ := sz_ap3 (A := 0) (B := 0) ok_202 rfl rfl (by decide +kernel) I1 (d := d + 20) (Nat.le_trans (by decide +kernel) (Nat.le_add_left 20 d)) w1 w2 w3
  exact ⟨a, b, h1, h2, e1, e2, I1, I2, F1, F2, fun q hq => (by cases hq), by omega, by omega⟩
theorem sg_67 (I : cq_Inv none h) (w1 w2 w3 : Int32) : ∃ (a b : Int32) (h1 h2 : am_H), am_ev (d + 20) 67 0 (am_ent [.ref 40, .int w1, .int w2, .int w3] (am_in 67).2.2.1) [] h (some (.int a), h1) ∧ am_ev (d + 20) 204 0 (am_ent [.ref 78, .int w1, .int w2, .int w3] (am_in 204).2.2.1) [] h1 (some (.int b), h2) ∧ cq_Inv none h1 ∧ cq_Inv none h2 ∧ cq_Fr ct_67.2.2.2.1 h h1 ∧ cq_Fr ct_204.2.2.2.1 h1 h2 ∧ (∀ q ∈ ([] : List (Nat × Nat × Nat × Nat)), tT h2 q) ∧ h2.1 ≤ h.1 + 12 ∧ h2.2.1 ≤ h.2.1 + 624 := by
  obtain ⟨a, h1, e1, I1, F1, A1, B1⟩ := sz_ap3 (A := 0) (B := 0) ok_67 rfl rfl (by decide +kernel) I (d := d + 20) (Nat.le_trans (by decide +kernel) (Nat.le_add_left 20 d)) w1 w2 w3
  obtain ⟨b, h2, e2, I2, F2, A2, B2⟩ := sz_ap3 (A := 0) (B := 0) ok_204 rfl rfl (by decide +kernel) I1 (d := d + 20) (Nat.le_trans (by decide +kernel) (Nat.le_add_left 20 d)) w1 w2 w3
  exact ⟨a, b, h1, h2, e1, e2, I1, I2, F1, F2, fun q hq => (by cases hq), by omega, by omega⟩
theorem sg_73 (I : cq_Inv none h) (w1 w2 : Int32) : ∃ (a b : Int32) (h1 h2 : am_H), am_ev (d + 20) 73 0 (am_ent [.ref 40, .int w1, .int w2] (am_in 73).2.2.1) [] h (some (.int a), h1) ∧ am_ev (d + 20) 207 0 (am_ent [.ref 78, .int w1, .int w2] (am_in 207).2.2.1) [] h1 (some (.int b), h2) ∧ cq_Inv none h1 ∧ cq_Inv none h2 ∧ cq_Fr ct_73.2.2.2.1 h h1 ∧ cq_Fr ct_207.2.2.2.1 h1 h2 ∧ (∀ q ∈ ([] : List (Nat × Nat × Nat × Nat)), tT h2 q) ∧ h2.1 ≤ h.1 + 12 ∧ h2.2.1 ≤ h.2.1 + 624 := by
  obtain ⟨a, h1, e1, I1, F1, A1, B1⟩ := sz_ap2 (A := 0) (B := 0) ok_73 rfl rfl (by decide +kernel) I (d := d + 20) (Nat.le_trans (by decide +kernel) (Nat.le_add_left 20 d)) w1 w2
  obtain ⟨b, h2, e2, I2, F2, A2, B2⟩ := sz_ap2 (A := 0) (B := 0) ok_207 rfl rfl (by decide +kernel) I1 (d := d + 20) (Nat.le_trans (by decide +kernel) (Nat.le_add_left 20 d)) w1 w2
  exact ⟨a, b, h1, h2, e1, e2, I1, I2, F1, F2, fun q hq => (by cases hq), by omega, by omega⟩
theorem sg_103 (I : cq_Inv none h) (w1 w2 : Int32) : ∃ (a b : Int32) (h1 h2 : am_H), am_ev (d + 20) 103 0 (am_ent [.ref 40, .int w1, .int w2] (am_in 103).2.2.1) [] h (some (.int a), h1) ∧ am_ev (d + 20) 226 0 (am_ent [.ref 78, .int w1, .int w2] (am_in 226).2.2.1) [] h1 (some (.int b), h2) ∧ cq_Inv none h1 ∧ cq_Inv none h2 ∧ cq_Fr ct_103.2.2.2.1 h h1 ∧ cq_Fr ct_226.2.2.2.1 h1 h2 ∧ (∀ q ∈ ([] : List (Nat × Nat × Nat × Nat)), tT h2 q) ∧ h2.1 ≤ h.1 + 12 ∧ h2.2.1 ≤ h.2.1 + 624 := by
  obtain ⟨a, h1, e1, I1, F1, A1, B1⟩ := sz_ap2 (A := 0) (B := 0) ok_103 rfl rfl (by decide +kernel) I (d := d + 20) (Nat.le_trans (by decide +kernel) (Nat.le_add_left 20 d)) w1 w2
  obtain ⟨b, h2, e2, I2, F2, A2, B2⟩ := sz_ap2 (A := 0) (B := 0) ok_226 rfl rfl (by decide +kernel) I1 (d := d + 20) (Nat.le_trans (by decide +kernel) (Nat.le_add_left 20 d)) w1 w2
  exact ⟨a, b, h1, h2, e1, e2, I1, I2, F1, F2, fun q hq => (by cases hq), by omega, by omega⟩
theorem sg_106 (I : cq_Inv none h) : ∃ (a b : Int32) (h1 h2 : am_H), am_ev (d + 20) 106 0 (am_ent [.ref 40] (am_in 106).2.2.1) [] h (some (.int a), h1) ∧ am_ev (d + 20) 234 0 (am_ent [.ref 78] (am_in 234).2.2.1) [] h1 (some (.int b), h2) ∧ cq_Inv none h1 ∧ cq_Inv none h2 ∧ cq_Fr ct_106.2.2.2.1 h h1 ∧ cq_Fr ct_234.2.2.2.1 h1 h2 ∧ (∀ q ∈ ([] : List (Nat × Nat × Nat × Nat)), tT h2 q) ∧ h2.1 ≤ h.1 + 12 ∧ h2.2.1 ≤ h.2.1 + 624 := by
  obtain ⟨a, h1, e1, I1, F1, A1, B1⟩ := sz_ap0 (A := 0) (B := 0) ok_106 rfl rfl (by decide +kernel) I (d := d + 20) (Nat.le_trans (by decide +kernel) (Nat.le_add_left 20 d))
  obtain ⟨b, h2, e2, I2, F2, A2, B2⟩ := sz_ap0 (A := 0) (B := 0) ok_234 rfl rfl (by decide +kernel) I1 (d := d + 20) (Nat.le_trans (by decide +kernel) (Nat.le_add_left 20 d))
  exact ⟨a, b, h1, h2, e1, e2, I1, I2, F1, F2, fun q hq => (by cases hq), by omega, by omega⟩
theorem sg_115 (I : cq_Inv none h) (w1 : Int32) : ∃ (a b : Int32) (h1 h2 : am_H), am_ev (d + 20) 115 0 (am_ent [.ref 40, .int w1] (am_in 115).2.2.1) [] h (some (.int a), h1) ∧ am_ev (d + 20) 238 0 (am_ent [.ref 78, .int w1] (am_in 238).2.2.1) [] h1 (some (.int b), h2) ∧ cq_Inv none h1 ∧ cq_Inv none h2 ∧ cq_Fr ct_115.2.2.2.1 h h1 ∧ cq_Fr ct_238.2.2.2.1 h1 h2 ∧ (∀ q ∈ ([] : List (Nat × Nat × Nat × Nat)), tT h2 q) ∧ h2.1 ≤ h.1 + 12 ∧ h2.2.1 ≤ h.2.1 + 624 := by
  obtain ⟨a, h1, e1, I1, F1, A1, B1⟩ := sz_ap1 (A := 0) (B := 0) ok_115 rfl rfl (by decide +kernel) I (d := d + 20) (Nat.le_trans (by decide +kernel) (Nat.le_add_left 20 d)) w1
  obtain ⟨b, h2, e2, I2, F2, A2, B2⟩ := sz_ap1 (A := 0) (B := 0) ok_238 rfl rfl (by decide +kernel) I1 (d := d + 20) (Nat.le_trans (by decide +kernel) (Nat.le_add_left 20 d)) w1
  exact ⟨a, b, h1, h2, e1, e2, I1, I2, F1, F2, fun q hq => (by cases hq), by omega, by omega⟩
theorem sg_118 (I : cq_Inv none h) (w1 : Int32) : ∃ (a b : Int32) (h1 h2 : am_H), am_ev (d + 20) 118 0 (am_ent [.ref 40, .int w1] (am_in 118).2.2.1) [] h (some (.int a), h1) ∧ am_ev (d + 20) 239 0 (am_ent [.ref 78, .int w1] (am_in 239).2.2.1) [] h1 (some (.int b), h2) ∧ cq_Inv none h1 ∧ cq_Inv none h2 ∧ cq_Fr ct_118.2.2.2.1 h h1 ∧ cq_Fr ct_239.2.2.2.1 h1 h2 ∧ (∀ q ∈ ([] : List (Nat × Nat × Nat × Nat)), tT h2 q) ∧ h2.1 ≤ h.1 + 12 ∧ h2.2.1 ≤ h.2.1 + 624 := by
  obtain ⟨a, h1, e1, I1, F1, A1, B1⟩ := sz_ap1 (A := 0) (B := 0) ok_118 rfl rfl (by decide +kernel) I (d := d + 20) (Nat.le_trans (by decide +kernel) (Nat.le_add_left 20 d)) w1
  obtain ⟨b, h2, e2, I2, F2, A2, B2⟩ := sz_ap1 (A := 0) (B := 0) ok_239 rfl rfl (by decide +kernel) I1 (d := d + 20) (Nat.le_trans (by decide +kernel) (Nat.le_add_left 20 d)) w1
  exact ⟨a, b, h1, h2, e1, e2, I1, I2, F1, F2, fun q hq => (by cases hq), by omega, by omega⟩
theorem sg_128 (I : cq_Inv none h) : ∃ (a b : Int32) (h1 h2 : am_H), am_ev (d + 20) 128 0 (am_ent [.ref 40] (am_in 128).2.2.1) [] h (some (.int a), h1) ∧ am_ev (d + 20) 247 0 (am_ent [.ref 78] (am_in 247).2.2.1) [] h1 (some (.int b), h2) ∧ cq_Inv none h1 ∧ cq_Inv none h2 ∧ cq_Fr ct_128.2.2.2.1 h h1 ∧ cq_Fr ct_247.2.2.2.1 h1 h2 ∧ (∀ q ∈ [((41 : Nat), (1 : Nat), (78 : Nat), (2 : Nat))], tT h2 q) ∧ h2.1 ≤ h.1 + 12 ∧ h2.2.1 ≤ h.2.1 + 624 := by
  obtain ⟨a, h1, e1, I1, F1, A1, B1⟩ := sz_ap0 (A := 0) (B := 0) ok_128 rfl rfl (by decide +kernel) I (d := d + 20) (Nat.le_trans (by decide +kernel) (Nat.le_add_left 20 d))
  obtain ⟨b, h2, e2, I2, F2, A2, B2⟩ := sz_ap0 (A := 0) (B := 0) ok_247 rfl rfl (by decide +kernel) I1 (d := d + 20) (Nat.le_trans (by decide +kernel) (Nat.le_add_left 20 d))
  exact ⟨a, b, h1, h2, e1, e2, I1, I2, F1, F2, fun q hq => (by rw [List.mem_singleton.1 hq]; exact ⟨Int32.ofInt 0, (lw_frF F2 I1.lo (c := 41) (j := 1) (by decide) (by decide +kernel)).trans (la_128 I e1), la_247 I1 e2⟩), by omega, by omega⟩
theorem sg_132 (I : cq_Inv none h) (w1 w2 : Int32) : ∃ (a b : Int32) (h1 h2 : am_H), am_ev (d + 20) 132 0 (am_ent [.ref 40, .int w1, .int w2] (am_in 132).2.2.1) [] h (some (.int a), h1) ∧ am_ev (d + 20) 248 0 (am_ent [.ref 78, .int w1, .int w2] (am_in 248).2.2.1) [] h1 (some (.int b), h2) ∧ cq_Inv none h1 ∧ cq_Inv none h2 ∧ cq_Fr ct_132.2.2.2.1 h h1 ∧ cq_Fr ct_248.2.2.2.1 h1 h2 ∧ (∀ q ∈ ([] : List (Nat × Nat × Nat × Nat)), tT h2 q) ∧ h2.1 ≤ h.1 + 12 ∧ h2.2.1 ≤ h.2.1 + 624 := by
  obtain ⟨a, h1, e1, I1, F1, A1, B1⟩ := sz_ap2 (A := 0) (B := 0) ok_132 rfl rfl (by decide +kernel) I (d := d + 20) (Nat.le_trans (by decide +kernel) (Nat.le_add_left 20 d)) w1 w2
  obtain ⟨b, h2, e2, I2, F2, A2, B2⟩ := sz_ap2 (A := 0) (B := 0) ok_248 rfl rfl (by decide +kernel) I1 (d := d + 20) (Nat.le_trans (by decide +kernel) (Nat.le_add_left 20 d)) w1 w2
  exact ⟨a, b, h1, h2, e1, e2, I1, I2, F1, F2, fun q hq => (by cases hq), by omega, by omega⟩
theorem sg_135 (I : cq_Inv none h) (w1 : Int32) : ∃ (a b : Int32) (h1 h2 : am_H), am_ev (d + 20) 135 0 (am_ent [.ref 40, .int w1] (am_in 135).2.2.1) [] h (some (.int a), h1) ∧ am_ev (d + 20) 250 0 (am_ent [.ref 78, .int w1] (am_in 250).2.2.1) [] h1 (some (.int b), h2) ∧ cq_Inv none h1 ∧ cq_Inv none h2 ∧ cq_Fr ct_135.2.2.2.1 h h1 ∧ cq_Fr ct_250.2.2.2.1 h1 h2 ∧ (∀ q ∈ ([] : List (Nat × Nat × Nat × Nat)), tT h2 q) ∧ h2.1 ≤ h.1 + 12 ∧ h2.2.1 ≤ h.2.1 + 624 := by
  obtain ⟨a, h1, e1, I1, F1, A1, B1⟩ := sz_ap1 (A := 0) (B := 0) ok_135 rfl rfl (by decide +kernel) I (d := d + 20) (Nat.le_trans (by decide +kernel) (Nat.le_add_left 20 d)) w1
  obtain ⟨b, h2, e2, I2, F2, A2, B2⟩ := sz_ap1 (A := 0) (B := 0) ok_250 rfl rfl (by decide +kernel) I1 (d := d + 20) (Nat.le_trans (by decide +kernel) (Nat.le_add_left 20 d)) w1
  exact ⟨a, b, h1, h2, e1, e2, I1, I2, F1, F2, fun q hq => (by cases hq), by omega, by omega⟩
theorem sg_136 (I : cq_Inv none h) (w1 : Int32) : ∃ (a b : Int32) (h1 h2 : am_H), am_ev (d + 20) 136 0 (am_ent [.ref 40, .int w1] (am_in 136).2.2.1) [] h (some (.int a), h1) ∧ am_ev (d + 20) 251 0 (am_ent [.ref 78, .int w1] (am_in 251).2.2.1) [] h1 (some (.int b), h2) ∧ cq_Inv none h1 ∧ cq_Inv none h2 ∧ cq_Fr ct_136.2.2.2.1 h h1 ∧ cq_Fr ct_251.2.2.2.1 h1 h2 ∧ (∀ q ∈ ([] : List (Nat × Nat × Nat × Nat)), tT h2 q) ∧ h2.1 ≤ h.1 + 12 ∧ h2.2.1 ≤ h.2.1 + 624 := by
  obtain ⟨a, h1, e1, I1, F1, A1, B1⟩ := sz_ap1 (A := 0) (B := 0) ok_136 rfl rfl (by decide +kernel) I (d := d + 20) (Nat.le_trans (by decide +kernel) (Nat.le_add_left 20 d)) w1
  obtain ⟨b, h2, e2, I2, F2, A2, B2⟩ := sz_ap1 (A := 0) (B := 0) ok_251 rfl rfl (by decide +kernel) I1 (d := d + 20) (Nat.le_trans (by decide +kernel) (Nat.le_add_left 20 d)) w1
  exact ⟨a, b, h1, h2, e1, e2, I1, I2, F1, F2, fun q hq => (by cases hq), by omega, by omega⟩
theorem sg_142 (I : cq_Inv none h) (w1 : Int32) : ∃ (a b : Int32) (h1 h2 : am_H), am_ev (d + 20) 142 0 (am_ent [.ref 40, .int w1] (am_in 142).2.2.1) [] h (some (.int a), h1) ∧ am_ev (d + 20) 253 0 (am_ent [.ref 78, .int w1] (am_in 253).2.2.1) [] h1 (some (.int b), h2) ∧ cq_Inv none h1 ∧ cq_Inv none h2 ∧ cq_Fr ct_142.2.2.2.1 h h1 ∧ cq_Fr ct_253.2.2.2.1 h1 h2 ∧ (∀ q ∈ ([] : List (Nat × Nat × Nat × Nat)), tT h2 q) ∧ h2.1 ≤ h.1 + 12 ∧ h2.2.1 ≤ h.2.1 + 624 := by
  obtain ⟨a, h1, e1, I1, F1, A1, B1⟩ := sz_ap1 (A := 0) (B := 0) ok_142 rfl rfl (by decide +kernel) I (d := d + 20) (Nat.le_trans (by decide +kernel) (Nat.le_add_left 20 d)) w1
  obtain ⟨b, h2, e2, I2, F2, A2, B2⟩ := sz_ap1 (A := 0) (B := 0) ok_253 rfl rfl (by decide +kernel) I1 (d := d + 20) (Nat.le_trans (by decide +kernel) (Nat.le_add_left 20 d)) w1
  exact ⟨a, b, h1, h2, e1, e2, I1, I2, F1, F2, fun q hq => (by cases hq), by omega, by omega⟩
theorem sg_151 (I : cq_Inv none h) (w1 : Int32) : ∃ (a b : Int32) (h1 h2 : am_H), am_ev (d + 20) 151 0 (am_ent [.ref 40, .int w1] (am_in 151).2.2.1) [] h (some (.int a), h1) ∧ am_ev (d + 20) 258 0 (am_ent [.ref 78, .int w1] (am_in 258).2.2.1) [] h1 (some (.int b), h2) ∧ cq_Inv none h1 ∧ cq_Inv none h2 ∧ cq_Fr ct_151.2.2.2.1 h h1 ∧ cq_Fr ct_258.2.2.2.1 h1 h2 ∧ (∀ q ∈ ([] : List (Nat × Nat × Nat × Nat)), tT h2 q) ∧ h2.1 ≤ h.1 + 12 ∧ h2.2.1 ≤ h.2.1 + 624 := by
  obtain ⟨a, h1, e1, I1, F1, A1, B1⟩ := sz_ap1 (A := 0) (B := 0) ok_151 rfl rfl (by decide +kernel) I (d := d + 20) (Nat.le_trans (by decide +kernel) (Nat.le_add_left 20 d)) w1
  obtain ⟨b, h2, e2, I2, F2, A2, B2⟩ := sz_ap1 (A := 0) (B := 0) ok_258 rfl rfl (by decide +kernel) I1 (d := d + 20) (Nat.le_trans (by decide +kernel) (Nat.le_add_left 20 d)) w1
  exact ⟨a, b, h1, h2, e1, e2, I1, I2, F1, F2, fun q hq => (by cases hq), by omega, by omega⟩
end SGG
