/-! FEED, both sides -/
theorem b_sshr (n : Nat) (hn : n < 32) (x : Int32) {i : Nat} (hi : i < 32) : bt (x >>> (Int32.ofNat n &&& 31)) i = if n + i < 32 then bt x (n + i) else bt x 31 := by
  unfold bt
  rw [Int32.toBitVec_shiftRight]
  show (x.toBitVec.sshiftRight ((Int32.ofNat n &&& 31).toBitVec.smod 32).toNat).getLsbD i = _
  rw [s_l n hn, BitVec.getLsbD_sshiftRight, BitVec.msb_eq_getLsbD_last]
  simp [hi]
theorem b_to8 {x y : Int32} (q : ∀ i, i < 8 → bt x i = bt y i) : x.toInt8.toInt32 = y.toInt8.toInt32 := by
  congr 1
  apply Int8.toBitVec_inj.1
  rw [Int32.toBitVec_toInt8, Int32.toBitVec_toInt8]
  apply BitVec.eq_of_getLsbD_eq
  intro i hi
  rw [BitVec.getLsbD_signExtend, BitVec.getLsbD_signExtend, if_pos (show i < 32 by omega), if_pos (show i < 32 by omega)]
  show (decide (i < 8) && bt x i) = (decide (i < 8) && bt y i)
  rw [q i hi]
theorem b_by {v : Int32} {n : Nat} (hn : n ≤ 24) : ((v.toUInt32 >>> ((Int32.ofInt (n : Int)).toUInt32 &&& Int32.toUInt32 31)).toInt32).toInt8.toInt32 = (v >>> ((Int32.ofInt (n : Int)) &&& 31)).toInt8.toInt32 := by
  refine b_to8 fun i hi => ?_
  rw [Int32.ofInt_eq_ofNat, b_ushr n (by omega), b_sshr n (by omega) _ (by omega), if_pos (by omega)]
section FEE
variable {d : Nat} {h g : am_H} {L : Nat} {v : Int32}
theorem pt_eq (S : fS h) (S2 : fS g) (v1 : h.2.2.2 41 1 = iv L) (v2 : g.2.2.2 78 2 = iv L) (hL : L + 4 ≤ 1600) (E : ∀ j, j < 1600 → h.2.2.2 42 j = g.2.2.2 80 j) : ∃ H G : am_H, am_ev d 15 0 (am_ent [.ref 41, .int v] 3) [] h (none, H) ∧ am_ev d 163 0 (am_ent [.ref 78, .int v] 3) [] g (none, G) ∧ fS H ∧ fS G ∧ H.2.2.2 41 1 = iv ((L + 4 : Nat) : Int) ∧ G.2.2.2 78 2 = iv ((L + 4 : Nat) : Int) ∧ ∀ j, j < 1600 → H.2.2.2 42 j = G.2.2.2 80 j := by
  refine ⟨(am_put (am_put (am_put (am_put (am_put (am_put (am_put (am_put h 42 L (.int ((v.toUInt32 >>> ((Int32.ofInt 24).toUInt32 &&& Int32.toUInt32 31)).toInt32).toInt8.toInt32)) 41 1 (iv ((L : Int) + 1))) 42 (L + 1) (.int ((v.toUInt32 >>> ((Int32.ofInt 16).toUInt32 &&& Int32.toUInt32 31)).toInt32).toInt8.toInt32)) 41 1 (iv ((L : Int) + 2))) 42 (L + 2) (.int ((v.toUInt32 >>> ((Int32.ofInt 8).toUInt32 &&& Int32.toUInt32 31)).toInt32).toInt8.toInt32)) 41 1 (iv ((L : Int) + 3))) 42 (L + 3) (.int ((v.toUInt32 >>> ((Int32.ofInt 0).toUInt32 &&& Int32.toUInt32 31)).toInt32).toInt8.toInt32)) 41 1 (iv ((L : Int) + 4))), (am_put (am_put (am_put (am_put (am_put (am_put (am_put (am_put g 80 L (.int ((v >>> ((Int32.ofInt 24) &&& 31))).toInt8.toInt32)) 78 2 (iv ((L : Int) + 1))) 80 (L + 1) (.int ((v >>> ((Int32.ofInt 16) &&& 31))).toInt8.toInt32)) 78 2 (iv ((L : Int) + 2))) 80 (L + 2) (.int ((v >>> ((Int32.ofInt 8) &&& 31))).toInt8.toInt32)) 78 2 (iv ((L : Int) + 3))) 80 (L + 3) (.int ((v >>> ((Int32.ofInt 0) &&& 31))).toInt8.toInt32)) 78 2 (iv ((L : Int) + 4))), ?_, ?_, ((((((((S.pa rfl).po rfl rfl).pa rfl).po rfl rfl).pa rfl).po rfl rfl).pa rfl).po rfl rfl), ((((((((S2.pa rfl).po rfl rfl).pa rfl).po rfl rfl).pa rfl).po rfl rfl).pa rfl).po rfl rfl), Eq.trans (ax_put_s _ _ _) (congrArg iv (by omega)), Eq.trans (ax_put_s _ _ _) (congrArg iv (by omega)), fun j hj => by
      by_cases e3 : j = L + 3
      · subst e3
        exact Eq.trans (ax_put_o (Or.inl (by decide)) (ax_put_s _ _ _)) (Eq.trans (congrArg Value.int (b_by (v := v) (n := 0) (by decide))) (Eq.symm (ax_put_o (Or.inl (by decide)) (ax_put_s _ _ _))))
      by_cases e2 : j = L + 2
      · subst e2
        exact Eq.trans (ax_put_o (Or.inl (by decide)) (ax_put_o (Or.inr (by omega)) (ax_put_o (Or.inl (by decide)) (ax_put_s _ _ _)))) (Eq.trans (congrArg Value.int (b_by (v := v) (n := 8) (by decide))) (Eq.symm (ax_put_o (Or.inl (by decide)) (ax_put_o (Or.inr (by omega)) (ax_put_o (Or.inl (by decide)) (ax_put_s _ _ _))))))
      by_cases e1 : j = L + 1
      · subst e1
        exact Eq.trans (ax_put_o (Or.inl (by decide)) (ax_put_o (Or.inr (by omega)) (ax_put_o (Or.inl (by decide)) (ax_put_o (Or.inr (by omega)) (ax_put_o (Or.inl (by decide)) (ax_put_s _ _ _)))))) (Eq.trans (congrArg Value.int (b_by (v := v) (n := 16) (by decide))) (Eq.symm (ax_put_o (Or.inl (by decide)) (ax_put_o (Or.inr (by omega)) (ax_put_o (Or.inl (by decide)) (ax_put_o (Or.inr (by omega)) (ax_put_o (Or.inl (by decide)) (ax_put_s _ _ _))))))))
      by_cases e0 : j = L
      · subst e0
        exact Eq.trans (ax_put_o (Or.inl (by decide)) (ax_put_o (Or.inr (by omega)) (ax_put_o (Or.inl (by decide)) (ax_put_o (Or.inr (by omega)) (ax_put_o (Or.inl (by decide)) (ax_put_o (Or.inr (by omega)) (ax_put_o (Or.inl (by decide)) (ax_put_s _ _ _)))))))) (Eq.trans (congrArg Value.int (b_by (v := v) (n := 24) (by decide))) (Eq.symm (ax_put_o (Or.inl (by decide)) (ax_put_o (Or.inr (by omega)) (ax_put_o (Or.inl (by decide)) (ax_put_o (Or.inr (by omega)) (ax_put_o (Or.inl (by decide)) (ax_put_o (Or.inr (by omega)) (ax_put_o (Or.inl (by decide)) (ax_put_s _ _ _))))))))))
      exact Eq.trans (ax_put_o (Or.inl (by decide)) (ax_put_o (Or.inr (by omega)) (ax_put_o (Or.inl (by decide)) (ax_put_o (Or.inr (by omega)) (ax_put_o (Or.inl (by decide)) (ax_put_o (Or.inr (by omega)) (ax_put_o (Or.inl (by decide)) (ax_put_o (Or.inr (by omega)) rfl)))))))) (Eq.trans (E j hj) (Eq.symm (ax_put_o (Or.inl (by decide)) (ax_put_o (Or.inr (by omega)) (ax_put_o (Or.inl (by decide)) (ax_put_o (Or.inr (by omega)) (ax_put_o (Or.inl (by decide)) (ax_put_o (Or.inr (by omega)) (ax_put_o (Or.inl (by decide)) (ax_put_o (Or.inr (by omega)) rfl))))))))))⟩
  · show am_ev d 15 0 [.ref 41, .int v, am_ph] [] h _
    refine fx_bip (p' := 2) rfl rfl rfl ?_
    refine am_ev.step (pc' := 3) (ls' := [.ref 41, .int v, iv 24]) rfl rfl ?_
    refine am_ev.step (pc' := 4) rfl rfl ?_
    refine fx_z_lt_F (pF := 7) rfl (by omega) rfl (by omega) ?_
    refine am_ev.step (pc' := 8) rfl rfl ?_
    refine ax_gf (p' := 11) rfl rfl (S.ob rfl) v1 ?_
    refine am_ev.step (pc' := 12) rfl rfl ?_
    refine ax_gf (p' := 15) rfl rfl (S.ob rfl) (S.rf rfl rfl) ?_
    refine fx_alen (p' := 16) (n := 1600) rfl rfl (S.al rfl rfl) ?_
    refine fx_c_ge_F (pF := 19) rfl (by omega) (by omega) rfl (by omega) ?_
    refine am_ev.step (pc' := 20) rfl rfl ?_
    refine ax_gf (p' := 23) rfl rfl (S.ob rfl) (S.rf rfl rfl) ?_
    refine am_ev.step (pc' := 24) rfl rfl ?_
    refine ax_gf (p' := 27) rfl rfl (S.ob rfl) v1 ?_
    refine am_ev.step (pc' := 28) rfl rfl ?_
    refine am_ev.step (pc' := 29) rfl rfl ?_
    refine am_ev.step (pc' := 30) rfl rfl ?_
    refine am_ev.step (pc' := 31) rfl rfl ?_
    refine ax_bas1 (p' := 32) rfl rfl (S.wr (k := L) rfl rfl rfl rfl (by omega)) (S.sb1 rfl rfl) (b_88 _) ?_
    refine am_ev.step (pc' := 33) rfl rfl ?_
    refine am_ev.step (pc' := 34) rfl rfl ?_
    refine ax_gf (p' := 37) rfl rfl (fO (S.ob rfl)) (ax_put_o (Or.inl (by decide)) v1) ?_
    refine am_ev.step (pc' := 38) rfl rfl ?_
    refine fx_add (p' := 39) (e := ((L : Int) + 1)) rfl rfl (by omega) ?_
    refine ax_pf (p' := 42) rfl rfl (fO (S.ob rfl)) rfl ?_
    refine fx_inc (p' := 45) (e := 16) (ls' := [.ref 41, .int v, iv 16]) rfl rfl rfl (by omega) rfl ?_
    refine am_ev.step (pc' := 3) rfl rfl ?_
    refine am_ev.step (pc' := 4) rfl rfl ?_
    refine fx_z_lt_F (pF := 7) rfl (by omega) rfl (by omega) ?_
    refine am_ev.step (pc' := 8) rfl rfl ?_
    refine ax_gf (p' := 11) rfl rfl (fO (fO (S.ob rfl))) (ax_put_s _ _ _) ?_
    refine am_ev.step (pc' := 12) rfl rfl ?_
    refine ax_gf (p' := 15) rfl rfl (fO (fO (S.ob rfl))) (ax_put_o (Or.inr (by decide)) (ax_put_o (Or.inl (by decide)) (S.rf rfl rfl))) ?_
    refine fx_alen (p' := 16) (n := 1600) rfl rfl (((S.pa rfl).po rfl rfl).al rfl rfl) ?_
    refine fx_c_ge_F (pF := 19) rfl (by omega) (by omega) rfl (by omega) ?_
    refine am_ev.step (pc' := 20) rfl rfl ?_
    refine ax_gf (p' := 23) rfl rfl (fO (fO (S.ob rfl))) (ax_put_o (Or.inr (by decide)) (ax_put_o (Or.inl (by decide)) (S.rf rfl rfl))) ?_
    refine am_ev.step (pc' := 24) rfl rfl ?_
    refine ax_gf (p' := 27) rfl rfl (fO (fO (S.ob rfl))) (ax_put_s _ _ _) ?_
    refine am_ev.step (pc' := 28) rfl rfl ?_
    refine am_ev.step (pc' := 29) rfl rfl ?_
    refine am_ev.step (pc' := 30) rfl rfl ?_
    refine am_ev.step (pc' := 31) rfl rfl ?_
    refine ax_bas1 (p' := 32) rfl rfl (((S.pa rfl).po rfl rfl).wr (k := (L + 1)) rfl rfl rfl (by omega) (by omega)) (((S.pa rfl).po rfl rfl).sb1 rfl rfl) (b_88 _) ?_
    refine am_ev.step (pc' := 33) rfl rfl ?_
    refine am_ev.step (pc' := 34) rfl rfl ?_
    refine ax_gf (p' := 37) rfl rfl (fO (fO (fO (S.ob rfl)))) (ax_put_o (Or.inl (by decide)) (ax_put_s _ _ _)) ?_
    refine am_ev.step (pc' := 38) rfl rfl ?_
    refine fx_add (p' := 39) (e := ((L : Int) + 2)) rfl rfl (by omega) ?_
    refine ax_pf (p' := 42) rfl rfl (fO (fO (fO (S.ob rfl)))) rfl ?_
    refine fx_inc (p' := 45) (e := 8) (ls' := [.ref 41, .int v, iv 8]) rfl rfl rfl (by omega) rfl ?_
    refine am_ev.step (pc' := 3) rfl rfl ?_
    refine am_ev.step (pc' := 4) rfl rfl ?_
    refine fx_z_lt_F (pF := 7) rfl (by omega) rfl (by omega) ?_
    refine am_ev.step (pc' := 8) rfl rfl ?_
    refine ax_gf (p' := 11) rfl rfl (fO (fO (fO (fO (S.ob rfl))))) (ax_put_s _ _ _) ?_
    refine am_ev.step (pc' := 12) rfl rfl ?_
    refine ax_gf (p' := 15) rfl rfl (fO (fO (fO (fO (S.ob rfl))))) (ax_put_o (Or.inr (by decide)) (ax_put_o (Or.inl (by decide)) (ax_put_o (Or.inr (by decide)) (ax_put_o (Or.inl (by decide)) (S.rf rfl rfl))))) ?_
    refine fx_alen (p' := 16) (n := 1600) rfl rfl (((((S.pa rfl).po rfl rfl).pa rfl).po rfl rfl).al rfl rfl) ?_
    refine fx_c_ge_F (pF := 19) rfl (by omega) (by omega) rfl (by omega) ?_
    refine am_ev.step (pc' := 20) rfl rfl ?_
    refine ax_gf (p' := 23) rfl rfl (fO (fO (fO (fO (S.ob rfl))))) (ax_put_o (Or.inr (by decide)) (ax_put_o (Or.inl (by decide)) (ax_put_o (Or.inr (by decide)) (ax_put_o (Or.inl (by decide)) (S.rf rfl rfl))))) ?_
    refine am_ev.step (pc' := 24) rfl rfl ?_
    refine ax_gf (p' := 27) rfl rfl (fO (fO (fO (fO (S.ob rfl))))) (ax_put_s _ _ _) ?_
    refine am_ev.step (pc' := 28) rfl rfl ?_
    refine am_ev.step (pc' := 29) rfl rfl ?_
    refine am_ev.step (pc' := 30) rfl rfl ?_
    refine am_ev.step (pc' := 31) rfl rfl ?_
    refine ax_bas1 (p' := 32) rfl rfl (((((S.pa rfl).po rfl rfl).pa rfl).po rfl rfl).wr (k := (L + 2)) rfl rfl rfl (by omega) (by omega)) (((((S.pa rfl).po rfl rfl).pa rfl).po rfl rfl).sb1 rfl rfl) (b_88 _) ?_
    refine am_ev.step (pc' := 33) rfl rfl ?_
    refine am_ev.step (pc' := 34) rfl rfl ?_
    refine ax_gf (p' := 37) rfl rfl (fO (fO (fO (fO (fO (S.ob rfl)))))) (ax_put_o (Or.inl (by decide)) (ax_put_s _ _ _)) ?_
    refine am_ev.step (pc' := 38) rfl rfl ?_
    refine fx_add (p' := 39) (e := ((L : Int) + 3)) rfl rfl (by omega) ?_
    refine ax_pf (p' := 42) rfl rfl (fO (fO (fO (fO (fO (S.ob rfl)))))) rfl ?_
    refine fx_inc (p' := 45) (e := 0) (ls' := [.ref 41, .int v, iv 0]) rfl rfl rfl (by omega) rfl ?_
    refine am_ev.step (pc' := 3) rfl rfl ?_
    refine am_ev.step (pc' := 4) rfl rfl ?_
    refine fx_z_lt_F (pF := 7) rfl (by omega) rfl (by omega) ?_
    refine am_ev.step (pc' := 8) rfl rfl ?_
    refine ax_gf (p' := 11) rfl rfl (fO (fO (fO (fO (fO (fO (S.ob rfl))))))) (ax_put_s _ _ _) ?_
    refine am_ev.step (pc' := 12) rfl rfl ?_
    refine ax_gf (p' := 15) rfl rfl (fO (fO (fO (fO (fO (fO (S.ob rfl))))))) (ax_put_o (Or.inr (by decide)) (ax_put_o (Or.inl (by decide)) (ax_put_o (Or.inr (by decide)) (ax_put_o (Or.inl (by decide)) (ax_put_o (Or.inr (by decide)) (ax_put_o (Or.inl (by decide)) (S.rf rfl rfl))))))) ?_
    refine fx_alen (p' := 16) (n := 1600) rfl rfl (((((((S.pa rfl).po rfl rfl).pa rfl).po rfl rfl).pa rfl).po rfl rfl).al rfl rfl) ?_
    refine fx_c_ge_F (pF := 19) rfl (by omega) (by omega) rfl (by omega) ?_
    refine am_ev.step (pc' := 20) rfl rfl ?_
    refine ax_gf (p' := 23) rfl rfl (fO (fO (fO (fO (fO (fO (S.ob rfl))))))) (ax_put_o (Or.inr (by decide)) (ax_put_o (Or.inl (by decide)) (ax_put_o (Or.inr (by decide)) (ax_put_o (Or.inl (by decide)) (ax_put_o (Or.inr (by decide)) (ax_put_o (Or.inl (by decide)) (S.rf rfl rfl))))))) ?_
    refine am_ev.step (pc' := 24) rfl rfl ?_
    refine ax_gf (p' := 27) rfl rfl (fO (fO (fO (fO (fO (fO (S.ob rfl))))))) (ax_put_s _ _ _) ?_
    refine am_ev.step (pc' := 28) rfl rfl ?_
    refine am_ev.step (pc' := 29) rfl rfl ?_
    refine am_ev.step (pc' := 30) rfl rfl ?_
    refine am_ev.step (pc' := 31) rfl rfl ?_
    refine ax_bas1 (p' := 32) rfl rfl (((((((S.pa rfl).po rfl rfl).pa rfl).po rfl rfl).pa rfl).po rfl rfl).wr (k := (L + 3)) rfl rfl rfl (by omega) (by omega)) (((((((S.pa rfl).po rfl rfl).pa rfl).po rfl rfl).pa rfl).po rfl rfl).sb1 rfl rfl) (b_88 _) ?_
    refine am_ev.step (pc' := 33) rfl rfl ?_
    refine am_ev.step (pc' := 34) rfl rfl ?_
    refine ax_gf (p' := 37) rfl rfl (fO (fO (fO (fO (fO (fO (fO (S.ob rfl)))))))) (ax_put_o (Or.inl (by decide)) (ax_put_s _ _ _)) ?_
    refine am_ev.step (pc' := 38) rfl rfl ?_
    refine fx_add (p' := 39) (e := ((L : Int) + 4)) rfl rfl (by omega) ?_
    refine ax_pf (p' := 42) rfl rfl (fO (fO (fO (fO (fO (fO (fO (S.ob rfl)))))))) rfl ?_
    refine fx_inc (p' := 45) (e := (-8)) (ls' := [.ref 41, .int v, iv (-8)]) rfl rfl rfl (by omega) rfl ?_
    refine am_ev.step (pc' := 3) rfl rfl ?_
    refine am_ev.step (pc' := 4) rfl rfl ?_
    refine fx_z_lt_T (pT := 48) rfl (by omega) rfl (by omega) ?_
    exact am_ev.retv rfl rfl
  · show am_ev d 163 0 [.ref 78, .int v, am_ph] [] g _
    refine fx_bip (p' := 2) rfl rfl rfl ?_
    refine am_ev.step (pc' := 3) (ls' := [.ref 78, .int v, iv 24]) rfl rfl ?_
    refine am_ev.step (pc' := 4) rfl rfl ?_
    refine fx_z_lt_F (pF := 7) rfl (by omega) rfl (by omega) ?_
    refine am_ev.step (pc' := 8) rfl rfl ?_
    refine ax_gf (p' := 11) rfl rfl (S2.ob rfl) (S2.rf rfl rfl) ?_
    refine am_ev.step (pc' := 12) rfl rfl ?_
    refine ax_gf (p' := 15) rfl rfl (S2.ob rfl) v2 ?_
    refine am_ev.step (pc' := 16) rfl rfl ?_
    refine am_ev.step (pc' := 17) rfl rfl ?_
    refine am_ev.step (pc' := 18) rfl rfl ?_
    refine am_ev.step (pc' := 19) rfl rfl ?_
    refine ax_bas1 (p' := 20) rfl rfl (S2.wr (k := L) rfl rfl rfl rfl (by omega)) (S2.sb1 rfl rfl) (b_88 _) ?_
    refine am_ev.step (pc' := 21) rfl rfl ?_
    refine am_ev.step (pc' := 22) rfl rfl ?_
    refine ax_gf (p' := 25) rfl rfl (fO (S2.ob rfl)) (ax_put_o (Or.inl (by decide)) v2) ?_
    refine am_ev.step (pc' := 26) rfl rfl ?_
    refine fx_add (p' := 27) (e := ((L : Int) + 1)) rfl rfl (by omega) ?_
    refine ax_pf (p' := 30) rfl rfl (fO (S2.ob rfl)) rfl ?_
    refine fx_inc (p' := 33) (e := 16) (ls' := [.ref 78, .int v, iv 16]) rfl rfl rfl (by omega) rfl ?_
    refine am_ev.step (pc' := 3) rfl rfl ?_
    refine am_ev.step (pc' := 4) rfl rfl ?_
    refine fx_z_lt_F (pF := 7) rfl (by omega) rfl (by omega) ?_
    refine am_ev.step (pc' := 8) rfl rfl ?_
    refine ax_gf (p' := 11) rfl rfl (fO (fO (S2.ob rfl))) (ax_put_o (Or.inr (by decide)) (ax_put_o (Or.inl (by decide)) (S2.rf rfl rfl))) ?_
    refine am_ev.step (pc' := 12) rfl rfl ?_
    refine ax_gf (p' := 15) rfl rfl (fO (fO (S2.ob rfl))) (ax_put_s _ _ _) ?_
    refine am_ev.step (pc' := 16) rfl rfl ?_
    refine am_ev.step (pc' := 17) rfl rfl ?_
    refine am_ev.step (pc' := 18) rfl rfl ?_
    refine am_ev.step (pc' := 19) rfl rfl ?_
    refine ax_bas1 (p' := 20) rfl rfl (((S2.pa rfl).po rfl rfl).wr (k := (L + 1)) rfl rfl rfl (by omega) (by omega)) (((S2.pa rfl).po rfl rfl).sb1 rfl rfl) (b_88 _) ?_
    refine am_ev.step (pc' := 21) rfl rfl ?_
    refine am_ev.step (pc' := 22) rfl rfl ?_
    refine ax_gf (p' := 25) rfl rfl (fO (fO (fO (S2.ob rfl)))) (ax_put_o (Or.inl (by decide)) (ax_put_s _ _ _)) ?_
    refine am_ev.step (pc' := 26) rfl rfl ?_
    refine fx_add (p' := 27) (e := ((L : Int) + 2)) rfl rfl (by omega) ?_
    refine ax_pf (p' := 30) rfl rfl (fO (fO (fO (S2.ob rfl)))) rfl ?_
    refine fx_inc (p' := 33) (e := 8) (ls' := [.ref 78, .int v, iv 8]) rfl rfl rfl (by omega) rfl ?_
    refine am_ev.step (pc' := 3) rfl rfl ?_
    refine am_ev.step (pc' := 4) rfl rfl ?_
    refine fx_z_lt_F (pF := 7) rfl (by omega) rfl (by omega) ?_
    refine am_ev.step (pc' := 8) rfl rfl ?_
    refine ax_gf (p' := 11) rfl rfl (fO (fO (fO (fO (S2.ob rfl))))) (ax_put_o (Or.inr (by decide)) (ax_put_o (Or.inl (by decide)) (ax_put_o (Or.inr (by decide)) (ax_put_o (Or.inl (by decide)) (S2.rf rfl rfl))))) ?_
    refine am_ev.step (pc' := 12) rfl rfl ?_
    refine ax_gf (p' := 15) rfl rfl (fO (fO (fO (fO (S2.ob rfl))))) (ax_put_s _ _ _) ?_
    refine am_ev.step (pc' := 16) rfl rfl ?_
    refine am_ev.step (pc' := 17) rfl rfl ?_
    refine am_ev.step (pc' := 18) rfl rfl ?_
    refine am_ev.step (pc' := 19) rfl rfl ?_
    refine ax_bas1 (p' := 20) rfl rfl (((((S2.pa rfl).po rfl rfl).pa rfl).po rfl rfl).wr (k := (L + 2)) rfl rfl rfl (by omega) (by omega)) (((((S2.pa rfl).po rfl rfl).pa rfl).po rfl rfl).sb1 rfl rfl) (b_88 _) ?_
    refine am_ev.step (pc' := 21) rfl rfl ?_
    refine am_ev.step (pc' := 22) rfl rfl ?_
    refine ax_gf (p' := 25) rfl rfl (fO (fO (fO (fO (fO (S2.ob rfl)))))) (ax_put_o (Or.inl (by decide)) (ax_put_s _ _ _)) ?_
    refine am_ev.step (pc' := 26) rfl rfl ?_
    refine fx_add (p' := 27) (e := ((L : Int) + 3)) rfl rfl (by omega) ?_
    refine ax_pf (p' := 30) rfl rfl (fO (fO (fO (fO (fO (S2.ob rfl)))))) rfl ?_
    refine fx_inc (p' := 33) (e := 0) (ls' := [.ref 78, .int v, iv 0]) rfl rfl rfl (by omega) rfl ?_
    refine am_ev.step (pc' := 3) rfl rfl ?_
    refine am_ev.step (pc' := 4) rfl rfl ?_
    refine fx_z_lt_F (pF := 7) rfl (by omega) rfl (by omega) ?_
    refine am_ev.step (pc' := 8) rfl rfl ?_
    refine ax_gf (p' := 11) rfl rfl (fO (fO (fO (fO (fO (fO (S2.ob rfl))))))) (ax_put_o (Or.inr (by decide)) (ax_put_o (Or.inl (by decide)) (ax_put_o (Or.inr (by decide)) (ax_put_o (Or.inl (by decide)) (ax_put_o (Or.inr (by decide)) (ax_put_o (Or.inl (by decide)) (S2.rf rfl rfl))))))) ?_
    refine am_ev.step (pc' := 12) rfl rfl ?_
    refine ax_gf (p' := 15) rfl rfl (fO (fO (fO (fO (fO (fO (S2.ob rfl))))))) (ax_put_s _ _ _) ?_
    refine am_ev.step (pc' := 16) rfl rfl ?_
    refine am_ev.step (pc' := 17) rfl rfl ?_
    refine am_ev.step (pc' := 18) rfl rfl ?_
    refine am_ev.step (pc' := 19) rfl rfl ?_
    refine ax_bas1 (p' := 20) rfl rfl (((((((S2.pa rfl).po rfl rfl).pa rfl).po rfl rfl).pa rfl).po rfl rfl).wr (k := (L + 3)) rfl rfl rfl (by omega) (by omega)) (((((((S2.pa rfl).po rfl rfl).pa rfl).po rfl rfl).pa rfl).po rfl rfl).sb1 rfl rfl) (b_88 _) ?_
    refine am_ev.step (pc' := 21) rfl rfl ?_
    refine am_ev.step (pc' := 22) rfl rfl ?_
    refine ax_gf (p' := 25) rfl rfl (fO (fO (fO (fO (fO (fO (fO (S2.ob rfl)))))))) (ax_put_o (Or.inl (by decide)) (ax_put_s _ _ _)) ?_
    refine am_ev.step (pc' := 26) rfl rfl ?_
    refine fx_add (p' := 27) (e := ((L : Int) + 4)) rfl rfl (by omega) ?_
    refine ax_pf (p' := 30) rfl rfl (fO (fO (fO (fO (fO (fO (fO (S2.ob rfl)))))))) rfl ?_
    refine fx_inc (p' := 33) (e := (-8)) (ls' := [.ref 78, .int v, iv (-8)]) rfl rfl rfl (by omega) rfl ?_
    refine am_ev.step (pc' := 3) rfl rfl ?_
    refine am_ev.step (pc' := 4) rfl rfl ?_
    refine fx_z_lt_T (pT := 36) rfl (by omega) rfl (by omega) ?_
    exact am_ev.retv rfl rfl
end FEE
section FEF
variable {d : Nat} {h g : am_H} {L : Nat} {p1 p2 p3 p4 p5 : Int32}
theorem fe_all (S : fS h) (Sb : fS g) (v1 : h.2.2.2 41 1 = iv L) (v2 : g.2.2.2 78 2 = iv L) (hL : L ≤ 1600) (E : ∀ j, j < 1600 → h.2.2.2 42 j = g.2.2.2 80 j) : ∃ (a : Int) (H G : am_H), am_ev (d + 1) 14 0 (am_ent [.ref 40, .int p1, .int p2, .int p3, .int p4, .int p5] 6) [] h (some (iv a), H) ∧ am_ev (d + 1) 162 0 (am_ent [.ref 78, .int p1, .int p2, .int p3, .int p4, .int p5] 6) [] g (some (iv a), G) ∧ H.2.2.2 41 1 = G.2.2.2 78 2 ∧ ∀ j, j < 1600 → H.2.2.2 42 j = G.2.2.2 80 j := by
  by_cases c : L + 20 ≤ 1600
  · have e20 : ((L + 20 : Nat) : Int) = ((L + 20 : Nat) : Int) := rfl
    obtain ⟨H1, G1, a1, c1, S1', Z1', u1, w1, E1⟩ := pt_eq (d := d) (v := p1) S Sb v1 v2 (by omega) E
    have S1 := S1'
    have Z1 := Z1'
    obtain ⟨H2, G2, a2, c2, S2', Z2', u2, w2, E2⟩ := pt_eq (d := d) (v := p2) S1 Z1 u1 w1 (by omega) E1
    have S2 := S2'
    have Z2 := Z2'
    obtain ⟨H3, G3, a3, c3, S3', Z3', u3, w3, E3⟩ := pt_eq (d := d) (v := p3) S2 Z2 u2 w2 (by omega) E2
    have S3 := S3'
    have Z3 := Z3'
    obtain ⟨H4, G4, a4, c4, S4', Z4', u4, w4, E4⟩ := pt_eq (d := d) (v := p4) S3 Z3 u3 w3 (by omega) E3
    have S4 := S4'
    have Z4 := Z4'
    obtain ⟨H5, G5, a5, c5, S5', Z5', u5, w5, E5⟩ := pt_eq (d := d) (v := p5) S4 Z4 u4 w4 (by omega) E4
    have S5 := S5'
    have Z5 := Z5'
    refine ⟨((L + 20 : Nat) : Int), H5, G5, ?_, ?_, Eq.trans u5 w5.symm, E5⟩
    · show am_ev (d + 1) 14 0 [.ref 40, .int p1, .int p2, .int p3, .int p4, .int p5] [] h _
      refine am_ev.step (pc' := 1) rfl rfl ?_
      refine ax_gf (p' := 4) rfl rfl (S.ob rfl) (S.rf rfl rfl) ?_
      refine ax_gf (p' := 7) rfl rfl (S.ob rfl) v1 ?_
      refine fx_bip (p' := 9) rfl rfl rfl ?_
      refine fx_add (p' := 10) (e := ((L : Int) + 20)) rfl rfl (by omega) ?_
      refine fx_sip (p' := 13) rfl rfl rfl ?_
      refine fx_c_le_T (pT := 19) rfl (by omega) (by omega) rfl (by omega) ?_
      refine am_ev.step (pc' := 20) rfl rfl ?_
      refine ax_gf (p' := 23) rfl rfl (S.ob rfl) (S.rf rfl rfl) ?_
      refine am_ev.step (pc' := 24) rfl rfl ?_
      refine ax_call (z := 15) (p' := 27) (as := [_, _]) rfl (Or.inr (Or.inl ⟨_, rfl⟩)) rfl rfl rfl rfl rfl rfl (S.ob rfl) rfl a1 rfl ?_
      refine am_ev.step (pc' := 28) rfl rfl ?_
      refine ax_gf (p' := 31) rfl rfl (S1.ob rfl) (S1.rf rfl rfl) ?_
      refine am_ev.step (pc' := 32) rfl rfl ?_
      refine ax_call (z := 15) (p' := 35) (as := [_, _]) rfl (Or.inr (Or.inl ⟨_, rfl⟩)) rfl rfl rfl rfl rfl rfl (S1.ob rfl) rfl a2 rfl ?_
      refine am_ev.step (pc' := 36) rfl rfl ?_
      refine ax_gf (p' := 39) rfl rfl (S2.ob rfl) (S2.rf rfl rfl) ?_
      refine am_ev.step (pc' := 40) rfl rfl ?_
      refine ax_call (z := 15) (p' := 43) (as := [_, _]) rfl (Or.inr (Or.inl ⟨_, rfl⟩)) rfl rfl rfl rfl rfl rfl (S2.ob rfl) rfl a3 rfl ?_
      refine am_ev.step (pc' := 44) rfl rfl ?_
      refine ax_gf (p' := 47) rfl rfl (S3.ob rfl) (S3.rf rfl rfl) ?_
      refine am_ev.step (pc' := 49) rfl rfl ?_
      refine ax_call (z := 15) (p' := 52) (as := [_, _]) rfl (Or.inr (Or.inl ⟨_, rfl⟩)) rfl rfl rfl rfl rfl rfl (S3.ob rfl) rfl a4 rfl ?_
      refine am_ev.step (pc' := 53) rfl rfl ?_
      refine ax_gf (p' := 56) rfl rfl (S4.ob rfl) (S4.rf rfl rfl) ?_
      refine am_ev.step (pc' := 58) rfl rfl ?_
      refine ax_call (z := 15) (p' := 61) (as := [_, _]) rfl (Or.inr (Or.inl ⟨_, rfl⟩)) rfl rfl rfl rfl rfl rfl (S4.ob rfl) rfl a5 rfl ?_
      refine am_ev.step (pc' := 62) rfl rfl ?_
      refine ax_gf (p' := 65) rfl rfl (S5.ob rfl) (S5.rf rfl rfl) ?_
      refine ax_gf (p' := 68) rfl rfl (S5.ob rfl) u5 ?_
      exact fx_reti rfl rfl rfl
    · show am_ev (d + 1) 162 0 [.ref 78, .int p1, .int p2, .int p3, .int p4, .int p5] [] g _
      refine am_ev.step (pc' := 1) rfl rfl ?_
      refine ax_gf (p' := 4) rfl rfl (Sb.ob rfl) v2 ?_
      refine fx_bip (p' := 6) rfl rfl rfl ?_
      refine fx_add (p' := 7) (e := ((L : Int) + 20)) rfl rfl (by omega) ?_
      refine fx_sip (p' := 10) rfl rfl rfl ?_
      refine fx_c_le_T (pT := 16) rfl (by omega) (by omega) rfl (by omega) ?_
      refine am_ev.step (pc' := 17) rfl rfl ?_
      refine am_ev.step (pc' := 18) rfl rfl ?_
      refine ax_call (z := 163) (p' := 21) (as := [_, _]) rfl (Or.inr (Or.inl ⟨_, rfl⟩)) rfl rfl rfl rfl rfl rfl (Sb.ob rfl) rfl c1 rfl ?_
      refine am_ev.step (pc' := 22) rfl rfl ?_
      refine am_ev.step (pc' := 23) rfl rfl ?_
      refine ax_call (z := 163) (p' := 26) (as := [_, _]) rfl (Or.inr (Or.inl ⟨_, rfl⟩)) rfl rfl rfl rfl rfl rfl (Z1.ob rfl) rfl c2 rfl ?_
      refine am_ev.step (pc' := 27) rfl rfl ?_
      refine am_ev.step (pc' := 28) rfl rfl ?_
      refine ax_call (z := 163) (p' := 31) (as := [_, _]) rfl (Or.inr (Or.inl ⟨_, rfl⟩)) rfl rfl rfl rfl rfl rfl (Z2.ob rfl) rfl c3 rfl ?_
      refine am_ev.step (pc' := 32) rfl rfl ?_
      refine am_ev.step (pc' := 34) rfl rfl ?_
      refine ax_call (z := 163) (p' := 37) (as := [_, _]) rfl (Or.inr (Or.inl ⟨_, rfl⟩)) rfl rfl rfl rfl rfl rfl (Z3.ob rfl) rfl c4 rfl ?_
      refine am_ev.step (pc' := 38) rfl rfl ?_
      refine am_ev.step (pc' := 40) rfl rfl ?_
      refine ax_call (z := 163) (p' := 43) (as := [_, _]) rfl (Or.inr (Or.inl ⟨_, rfl⟩)) rfl rfl rfl rfl rfl rfl (Z4.ob rfl) rfl c5 rfl ?_
      refine am_ev.step (pc' := 44) rfl rfl ?_
      refine ax_gf (p' := 47) rfl rfl (Z5.ob rfl) w5 ?_
      exact fx_reti rfl rfl rfl
  · refine ⟨-3, h, g, ?_, ?_, Eq.trans v1 v2.symm, E⟩
    · show am_ev (d + 1) 14 0 [.ref 40, .int p1, .int p2, .int p3, .int p4, .int p5] [] h _
      refine am_ev.step (pc' := 1) rfl rfl ?_
      refine ax_gf (p' := 4) rfl rfl (S.ob rfl) (S.rf rfl rfl) ?_
      refine ax_gf (p' := 7) rfl rfl (S.ob rfl) v1 ?_
      refine fx_bip (p' := 9) rfl rfl rfl ?_
      refine fx_add (p' := 10) (e := ((L : Int) + 20)) rfl rfl (by omega) ?_
      refine fx_sip (p' := 13) rfl rfl rfl ?_
      refine fx_c_le_F (pF := 16) rfl (by omega) (by omega) rfl (by omega) ?_
      refine fx_bip (p' := 18) rfl rfl rfl ?_
      exact fx_reti rfl rfl rfl
    · show am_ev (d + 1) 162 0 [.ref 78, .int p1, .int p2, .int p3, .int p4, .int p5] [] g _
      refine am_ev.step (pc' := 1) rfl rfl ?_
      refine ax_gf (p' := 4) rfl rfl (Sb.ob rfl) v2 ?_
      refine fx_bip (p' := 6) rfl rfl rfl ?_
      refine fx_add (p' := 7) (e := ((L : Int) + 20)) rfl rfl (by omega) ?_
      refine fx_sip (p' := 10) rfl rfl rfl ?_
      refine fx_c_le_F (pF := 13) rfl (by omega) (by omega) rfl (by omega) ?_
      refine fx_bip (p' := 15) rfl rfl rfl ?_
      exact fx_reti rfl rfl rfl
end FEF
/-! RULE, both sides -/
section RUL
variable {d : Nat} {h : am_H} {i : Nat} {x : Int} {v : Int32}
theorem md_inN {u : Int} {l g : Nat} (hl : l < 100000) (hg : g < 100000) (r : -2147483648 ≤ u ∧ u ≤ 2147483647) : ((l : Int) ≤ u ∧ u ≤ g → am_ev d 165 0 (am_ent [.long (Int32.ofInt u).toInt64, .long (Int64.ofNat l), .long (Int64.ofNat g)] 6) [] h (some (iv 1), h)) ∧ (¬ ((l : Int) ≤ u ∧ u ≤ g) → am_ev d 165 0 (am_ent [.long (Int32.ofInt u).toInt64, .long (Int64.ofNat l), .long (Int64.ofNat g)] 6) [] h (some (iv 0), h)) := by
  have e0 := md_l r
  have e1 : (Int64.ofNat l).toInt = (l : Int) := Int64.toInt_ofNat_of_lt (by omega)
  have e2 : (Int64.ofNat g).toInt = (g : Int) := Int64.toInt_ofNat_of_lt (by omega)
  exact ⟨fun q => md_165t (by omega), fun q => md_165f (by omega)⟩
theorem ru_36 (S : fS h) (hi : i < 6) (vv : h.2.2.2 45 i = .int v) : am_ev d 36 0 (am_ent [.ref 43, iv ((i : Int))] 2) [] h (some (.int v), h) := by
  show am_ev d 36 0 [.ref 43, iv ((i : Int))] [] h _
  refine am_ev.step (pc' := 1) rfl rfl ?_
  refine fx_z_lt_F (pF := 4) rfl (by omega) rfl (by omega) ?_
  refine am_ev.step (pc' := 5) rfl rfl ?_
  refine fx_bip (p' := 7) rfl rfl rfl ?_
  refine fx_c_lt_T (pT := 14) rfl (by omega) (by omega) rfl (by omega) ?_
  refine am_ev.step (pc' := 15) rfl rfl ?_
  refine ax_gf (p' := 18) rfl rfl (S.ob rfl) (S.rf rfl rfl) ?_
  refine am_ev.step (pc' := 19) rfl rfl ?_
  refine ax_iaload (p' := 20) rfl rfl (S.rd (k := i) rfl rfl rfl rfl rfl (by omega) vv) ?_
  exact fx_reti rfl rfl rfl
theorem ru_37a (S : fS h) (hi : i < 7) (vv : h.2.2.2 44 i = .int v) : am_ev d 37 0 (am_ent [.ref 43, iv ((i : Int))] 2) [] h (some (.int v), h) := by
  show am_ev d 37 0 [.ref 43, iv ((i : Int))] [] h _
  refine am_ev.step (pc' := 1) rfl rfl ?_
  refine fx_z_lt_F (pF := 4) rfl (by omega) rfl (by omega) ?_
  refine am_ev.step (pc' := 5) rfl rfl ?_
  refine fx_bip (p' := 7) rfl rfl rfl ?_
  refine fx_c_lt_T (pT := 14) rfl (by omega) (by omega) rfl (by omega) ?_
  refine am_ev.step (pc' := 15) rfl rfl ?_
  refine ax_gf (p' := 18) rfl rfl (S.ob rfl) (S.rf rfl rfl) ?_
  refine am_ev.step (pc' := 19) rfl rfl ?_
  refine ax_iaload (p' := 20) rfl rfl (S.rd (k := i) rfl rfl rfl rfl rfl (by omega) vv) ?_
  exact fx_reti rfl rfl rfl
theorem ru_37b (S : fS h) (r : -2147483648 ≤ x ∧ x ≤ 2147483647) (hx : x < 0 ∨ 7 ≤ x) : am_ev d 37 0 (am_ent [.ref 43, iv x] 2) [] h (some (iv (-1)), h) := by
  show am_ev d 37 0 [.ref 43, iv x] [] h _

  refine am_ev.step (pc' := 1) rfl rfl ?_
  refine fx_z_lt (pT := 10) (pF := 4) rfl (by omega) rfl rfl (fun c1 => ?_) (fun c1 => ?_)
  · refine am_ev.step (pc' := 11) rfl rfl ?_
    refine am_ev.step (pc' := 20) rfl rfl ?_
    exact fx_reti rfl rfl rfl
  · refine am_ev.step (pc' := 5) rfl rfl ?_
    refine fx_bip (p' := 7) rfl rfl rfl ?_
    refine fx_c_lt (pT := 14) (pF := 10) rfl (by omega) (by omega) rfl rfl (fun c2 => ?_) (fun c2 => ?_)
    · exfalso
      omega
    · refine am_ev.step (pc' := 11) rfl rfl ?_
      refine am_ev.step (pc' := 20) rfl rfl ?_
      exact fx_reti rfl rfl rfl
theorem ru_35y (S : fS h) (hi : i < 6) (vv : h.2.2.2 45 i = .int v) : am_ev (d + 1) 35 0 (am_ent [.ref 40, iv ((i : Int) + 10)] 2) [] h (some (.int v), h) := by
  show am_ev (d + 1) 35 0 [.ref 40, iv ((i : Int) + 10)] [] h _
  refine am_ev.step (pc' := 1) rfl rfl ?_
  refine fx_bip (p' := 3) rfl rfl rfl ?_
  refine fx_c_lt_F (pF := 6) rfl (by omega) (by omega) rfl (by omega) ?_
  refine am_ev.step (pc' := 7) rfl rfl ?_
  refine fx_bip (p' := 9) rfl rfl rfl ?_
  refine fx_c_ge_F (pF := 12) rfl (by omega) (by omega) rfl (by omega) ?_
  refine am_ev.step (pc' := 13) rfl rfl ?_
  refine ax_gf (p' := 16) rfl rfl (S.ob rfl) (S.rf rfl rfl) ?_
  refine am_ev.step (pc' := 17) rfl rfl ?_
  refine fx_bip (p' := 19) rfl rfl rfl ?_
  refine fx_sub (p' := 20) (e := ((i : Int))) rfl rfl (by omega) ?_
  refine ax_call (z := 36) (p' := 23) (as := [_, _]) rfl (Or.inr (Or.inl ⟨_, rfl⟩)) rfl rfl rfl rfl rfl rfl (S.ob rfl) rfl (ru_36 (i := i) S hi vv) rfl ?_
  exact fx_reti rfl rfl rfl
theorem ru_35v (S : fS h) (hi : i < 7) (vv : h.2.2.2 44 i = .int v) : am_ev (d + 1) 35 0 (am_ent [.ref 40, iv ((i : Int))] 2) [] h (some (.int v), h) := by
  show am_ev (d + 1) 35 0 [.ref 40, iv ((i : Int))] [] h _
  refine am_ev.step (pc' := 1) rfl rfl ?_
  refine fx_bip (p' := 3) rfl rfl rfl ?_
  refine fx_c_lt_T (pT := 24) rfl (by omega) (by omega) rfl (by omega) ?_
  refine am_ev.step (pc' := 25) rfl rfl ?_
  refine ax_gf (p' := 28) rfl rfl (S.ob rfl) (S.rf rfl rfl) ?_
  refine am_ev.step (pc' := 29) rfl rfl ?_
  refine ax_call (z := 37) (p' := 32) (as := [_, _]) rfl (Or.inr (Or.inl ⟨_, rfl⟩)) rfl rfl rfl rfl rfl rfl (S.ob rfl) rfl (ru_37a (i := i) S hi vv) rfl ?_
  exact fx_reti rfl rfl rfl
theorem ru_35n (S : fS h) (r : -2147483648 ≤ x ∧ x ≤ 2147483647) (hx : ¬ (0 ≤ x ∧ x < 7) ∧ ¬ (10 ≤ x ∧ x < 16)) : am_ev (d + 1) 35 0 (am_ent [.ref 40, iv x] 2) [] h (some (iv (-1)), h) := by
  show am_ev (d + 1) 35 0 [.ref 40, iv x] [] h _
  refine am_ev.step (pc' := 1) rfl rfl ?_
  refine fx_bip (p' := 3) rfl rfl rfl ?_
  refine fx_c_lt (pT := 24) (pF := 6) rfl (by omega) (by omega) rfl rfl (fun c1 => ?_) (fun c1 => ?_)
  · refine am_ev.step (pc' := 25) rfl rfl ?_
    refine ax_gf (p' := 28) rfl rfl (S.ob rfl) (S.rf rfl rfl) ?_
    refine am_ev.step (pc' := 29) rfl rfl ?_
    refine ax_call (z := 37) (p' := 32) (as := [_, _]) rfl (Or.inr (Or.inl ⟨_, rfl⟩)) rfl rfl rfl rfl rfl rfl (S.ob rfl) rfl (ru_37b S r (by omega)) rfl ?_
    exact fx_reti rfl rfl rfl
  · refine am_ev.step (pc' := 7) rfl rfl ?_
    refine fx_bip (p' := 9) rfl rfl rfl ?_
    refine fx_c_ge (pT := 24) (pF := 12) rfl (by omega) (by omega) rfl rfl (fun c2 => ?_) (fun c2 => ?_)
    · refine am_ev.step (pc' := 25) rfl rfl ?_
      refine ax_gf (p' := 28) rfl rfl (S.ob rfl) (S.rf rfl rfl) ?_
      refine am_ev.step (pc' := 29) rfl rfl ?_
      refine ax_call (z := 37) (p' := 32) (as := [_, _]) rfl (Or.inr (Or.inl ⟨_, rfl⟩)) rfl rfl rfl rfl rfl rfl (S.ob rfl) rfl (ru_37b S r (by omega)) rfl ?_
      exact fx_reti rfl rfl rfl
    · exfalso
      omega
theorem ru_184y (S : fS h) (hi : i < 6) (vv : h.2.2.2 82 i = .int v) : am_ev (d + 1) 184 0 (am_ent [.ref 78, iv ((i : Int) + 10)] 2) [] h (some (.int v), h) := by
  show am_ev (d + 1) 184 0 [.ref 78, iv ((i : Int) + 10)] [] h _
  refine am_ev.step (pc' := 1) rfl rfl ?_
  refine am_ev.step (pc' := 2) rfl rfl ?_
  refine am_ev.step (pc' := 3) rfl rfl ?_
  refine am_ev.step (pc' := 6) rfl rfl ?_
  refine ax_call (z := 165) (p' := 9) (as := [_, _, _]) rfl (Or.inl ⟨_, rfl⟩) rfl rfl rfl rfl rfl rfl rfl rfl ((md_inN (l := 0) (g := 6) (by decide) (by decide) (by omega)).2 (by omega)) rfl ?_
  refine fx_z_eq_T (pT := 21) rfl (by omega) rfl (by omega) ?_
  refine am_ev.step (pc' := 22) rfl rfl ?_
  refine am_ev.step (pc' := 23) rfl rfl ?_
  refine am_ev.step (pc' := 26) rfl rfl ?_
  refine am_ev.step (pc' := 29) rfl rfl ?_
  refine ax_call (z := 165) (p' := 32) (as := [_, _, _]) rfl (Or.inl ⟨_, rfl⟩) rfl rfl rfl rfl rfl rfl rfl rfl ((md_inN (l := 10) (g := 15) (by decide) (by decide) (by omega)).1 (by omega)) rfl ?_
  refine fx_z_eq_F (pF := 35) rfl (by omega) rfl (by omega) ?_
  refine am_ev.step (pc' := 36) rfl rfl ?_
  refine ax_gf (p' := 39) rfl rfl (S.ob rfl) (S.rf rfl rfl) ?_
  refine am_ev.step (pc' := 40) rfl rfl ?_
  refine fx_bip (p' := 42) rfl rfl rfl ?_
  refine fx_sub (p' := 43) (e := ((i : Int))) rfl rfl (by omega) ?_
  refine ax_iaload (p' := 44) rfl rfl (S.rd (k := i) rfl rfl rfl rfl rfl (by omega) vv) ?_
  refine am_ev.step (pc' := 48) rfl rfl ?_
  exact fx_reti rfl rfl rfl
theorem ru_184v (S : fS h) (hi : i < 7) (vv : h.2.2.2 81 i = .int v) : am_ev (d + 1) 184 0 (am_ent [.ref 78, iv ((i : Int))] 2) [] h (some (.int v), h) := by
  show am_ev (d + 1) 184 0 [.ref 78, iv ((i : Int))] [] h _
  refine am_ev.step (pc' := 1) rfl rfl ?_
  refine am_ev.step (pc' := 2) rfl rfl ?_
  refine am_ev.step (pc' := 3) rfl rfl ?_
  refine am_ev.step (pc' := 6) rfl rfl ?_
  refine ax_call (z := 165) (p' := 9) (as := [_, _, _]) rfl (Or.inl ⟨_, rfl⟩) rfl rfl rfl rfl rfl rfl rfl rfl ((md_inN (l := 0) (g := 6) (by decide) (by decide) (by omega)).1 (by omega)) rfl ?_
  refine fx_z_eq_F (pF := 12) rfl (by omega) rfl (by omega) ?_
  refine am_ev.step (pc' := 13) rfl rfl ?_
  refine ax_gf (p' := 16) rfl rfl (S.ob rfl) (S.rf rfl rfl) ?_
  refine am_ev.step (pc' := 17) rfl rfl ?_
  refine ax_iaload (p' := 18) rfl rfl (S.rd (k := i) rfl rfl rfl rfl rfl (by omega) vv) ?_
  refine am_ev.step (pc' := 48) rfl rfl ?_
  exact fx_reti rfl rfl rfl
theorem ru_184n (S : fS h) (r : -2147483648 ≤ x ∧ x ≤ 2147483647) (hx : ¬ (0 ≤ x ∧ x < 7) ∧ ¬ (10 ≤ x ∧ x < 16)) : am_ev (d + 1) 184 0 (am_ent [.ref 78, iv (x)] 2) [] h (some (iv (-1)), h) := by
  show am_ev (d + 1) 184 0 [.ref 78, iv (x)] [] h _
  refine am_ev.step (pc' := 1) rfl rfl ?_
  refine am_ev.step (pc' := 2) rfl rfl ?_
  refine am_ev.step (pc' := 3) rfl rfl ?_
  refine am_ev.step (pc' := 6) rfl rfl ?_
  refine ax_call (z := 165) (p' := 9) (as := [_, _, _]) rfl (Or.inl ⟨_, rfl⟩) rfl rfl rfl rfl rfl rfl rfl rfl ((md_inN (l := 0) (g := 6) (by decide) (by decide) (by omega)).2 (by omega)) rfl ?_
  refine fx_z_eq_T (pT := 21) rfl (by omega) rfl (by omega) ?_
  refine am_ev.step (pc' := 22) rfl rfl ?_
  refine am_ev.step (pc' := 23) rfl rfl ?_
  refine am_ev.step (pc' := 26) rfl rfl ?_
  refine am_ev.step (pc' := 29) rfl rfl ?_
  refine ax_call (z := 165) (p' := 32) (as := [_, _, _]) rfl (Or.inl ⟨_, rfl⟩) rfl rfl rfl rfl rfl rfl rfl rfl ((md_inN (l := 10) (g := 15) (by decide) (by decide) (by omega)).2 (by omega)) rfl ?_
  refine fx_z_eq_T (pT := 47) rfl (by omega) rfl (by omega) ?_
  refine am_ev.step (pc' := 48) rfl rfl ?_
  exact fx_reti rfl rfl rfl
theorem ru_all (S : fS h) (iV : ∀ j, j < 7 → ∃ v : Int32, h.2.2.2 44 j = .int v) (iY : ∀ j, j < 6 → ∃ v : Int32, h.2.2.2 45 j = .int v) (Tv : ∀ j, j < 7 → h.2.2.2 44 j = h.2.2.2 81 j) (Ty : ∀ j, j < 6 → h.2.2.2 45 j = h.2.2.2 82 j) (p : Int32) : ∃ a : Int32, am_ev (d + 1) 35 0 (am_ent [.ref 40, .int p] 2) [] h (some (.int a), h) ∧ am_ev (d + 1) 184 0 (am_ent [.ref 78, .int p] 2) [] h (some (.int a), h) := by
  have r1 := p.le_toInt
  have r2 := p.toInt_lt
  rw [fx_of p]
  generalize p.toInt = x at r1 r2 ⊢
  by_cases c1 : 0 ≤ x ∧ x < 7
  · obtain ⟨i, rfl⟩ : ∃ i : Nat, x = (i : Int) := ⟨x.toNat, by omega⟩
    obtain ⟨v, hv⟩ := iV i (by omega)
    exact ⟨v, ru_35v S (by omega) hv, ru_184v S (by omega) ((Tv i (by omega)).symm.trans hv)⟩
  · by_cases c2 : 10 ≤ x ∧ x < 16
    · obtain ⟨i, rfl⟩ : ∃ i : Nat, x = (i : Int) + 10 := ⟨(x - 10).toNat, by omega⟩
      obtain ⟨v, hv⟩ := iY i (by omega)
      exact ⟨v, ru_35y S (by omega) hv, ru_184y S (by omega) ((Ty i (by omega)).symm.trans hv)⟩
    · exact ⟨Int32.ofInt (-1), ru_35n S (by omega) ⟨c1, c2⟩, ru_184n S (by omega) ⟨c1, c2⟩⟩
end RUL
