/-! THE LAW'S LOOP -/
theorem cq_HC_g {m : cq_W} {h0 : am_H} {ρ0 : Nat → Int} {n0 : Nat} {Fin : Option Value × am_H → Prop} {ck : Bool → List cq_A → cq_S → Bool} {cts : Nat → Option cq_Ct} (HE : cq_HE m h0 ρ0 n0 ck Fin) (HT : cq_TK m h0 cts) : cq_HC m h0 ρ0 n0 Fin (cq_cl0 m ck cts) := by
  intro e Z out ρ1 ls st h2 fs d2 a hn hc hi hq H hd K
  unfold cq_cl0 at hq
  split at hq
  · rename_i c' hc'
    obtain ⟨wf', CT', UT'⟩ := HT _ c' hc'
    exact cq_cc_ok HE a hn wf' CT' UT' hc hi hq H hd K
  · split at hq
    · rename_i Z' hz
      rw [← Option.some.inj hq] at K
      refine cq_inl_ok hc hi hz H hd fun ls' st' fs' d' R' hd' => ?_
      refine K.one List.mem_cons_self cq_ag.rf ?_ R' hd'
      obtain ⟨y1, pc1, als1, ast1, fr1, db1, S1⟩ := Z
      unfold cq_inl at hz
      split at hz
      · rename_i heq
        cases heq
        rw [cond_eq_ite] at hz
        split at hz
        · rw [← Option.some.inj hz]
          exact Nat.le_refl _
        · cases hz
      · cases hz
    · cases hq
def lw_m : cq_W := [(false, 129, 0, 0), (false, 40, 10, 0), (false, 40, 19, 0), (false, 40, 20, 0), (false, 41, 2, 0), (false, 77, 0, 0), (false, 78, 16, 0), (false, 78, 3, 0), (false, 78, 81, 0), (false, 78, 82, 0)]
def lw_t : Nat → Option cq_Ct := (cq_tc 16 ct_16u (cq_tc 164 ct_164u (cq_tc 17 ct_17u (cq_tc 166 ct_166u (cq_tc 34 ct_34 (cq_tc 183 ct_183 (cq_tc 35 ct_35 (cq_tc 184 ct_184 (cq_tc 86 ct_86 (cq_tc 213 ct_213 (cq_tc 92 ct_92 (cq_tc 218 ct_218 (cq_tc 98 ct_98 (cq_tc 223 ct_223 (cq_tc 114 ct_114 (cq_tc 237 ct_237 (cq_tc 149 ct_149 (cq_tc 257 ct_257 (cq_tc 156 ct_156 (cq_tc 259 ct_259 (cq_tc 157 ct_157 (cq_tc 260 ct_260 (cq_tc 158 ct_158 (cq_tc 261 ct_261 (cq_tc 159 ct_159 (cq_tc 262 ct_262 (cq_tc 160 ct_160 (cq_tc 263 ct_263 cq_t0))))))))))))))))))))))))))))
theorem lw_t_ok : ∀ h, cq_Inv none h → cq_TK lw_m h lw_t := (cq_tc_ok wf_16u ok_16u (cq_tc_ok wf_164u ok_164u (cq_tc_ok wf_17u ok_17u (cq_tc_ok wf_166u ok_166u (cq_tc_ok wf_34 ok_34 (cq_tc_ok wf_183 ok_183 (cq_tc_ok wf_35 ok_35 (cq_tc_ok wf_184 ok_184 (cq_tc_ok wf_86 ok_86 (cq_tc_ok wf_213 ok_213 (cq_tc_ok wf_92 ok_92 (cq_tc_ok wf_218 ok_218 (cq_tc_ok wf_98 ok_98 (cq_tc_ok wf_223 ok_223 (cq_tc_ok wf_114 ok_114 (cq_tc_ok wf_237 ok_237 (cq_tc_ok wf_149 ok_149 (cq_tc_ok wf_257 ok_257 (cq_tc_ok wf_156 ok_156 (cq_tc_ok wf_259 ok_259 (cq_tc_ok wf_157 ok_157 (cq_tc_ok wf_260 ok_260 (cq_tc_ok wf_158 ok_158 (cq_tc_ok wf_261 ok_261 (cq_tc_ok wf_159 ok_159 (cq_tc_ok wf_262 ok_262 (cq_tc_ok wf_160 ok_160 (cq_tc_ok wf_263 ok_263 cq_t0_ok))))))))))))))))))))))))))))
def lw_S : cq_S := cq_mk 11 ([(0, 0, 3078), (1, 0, 1600), (2, 0, 3072), (3, (-2147483648), 2147483647), (4, (-2147483648), 2147483647), (5, (-2147483648), 2147483647), (6, (-2147483648), 2147483647), (7, (-2147483648), 2147483647), (8, 0, 29999), (9, 0, 40), (10, 0, 60)], [((-6), [(0, (-1)), (2, 1)])]) [] [] [] [((false, 41), (1, []), (1, (0, [(1, 1)]), 0)), ((false, 78), (2, []), (1, (0, [(1, 1)]), 0)), ((false, 40), (9, []), (1, (0, [(8, 1)]), 0)), ((false, 78), (15, []), (1, (0, [(8, 1)]), 0)), ((false, 40), (8, []), (1, (0, [(9, 1)]), 0)), ((false, 78), (16, []), (1, (0, [(9, 1)]), 0)), ((false, 48), (5, []), (1, (0, [(10, 1)]), 0)), ((false, 78), (36, []), (1, (0, [(10, 1)]), 0)), ((false, 0), (1, [(0, 1)]), (1, (0, [(3, 1)]), 0)), ((false, 0), (2, [(0, 1)]), (1, (0, [(4, 1)]), 0)), ((false, 0), (3, [(0, 1)]), (1, (0, [(5, 1)]), 0)), ((false, 0), (4, [(0, 1)]), (1, (0, [(6, 1)]), 0)), ((false, 0), (5, [(0, 1)]), (1, (0, [(7, 1)]), 0))] [((false, 0), (0, [(2, 1)]))] [] none 0 0
def lw_ck (t : Bool) (vs : List cq_A) (S : cq_S) : Bool := !t && Nat.beq S.ac 0 && Nat.beq S.al 0 && (match vs with
  | [(1, f, _)] => cq_fe f (cq_c 1)
  | _ => false)
/-- places of both sides that hold the same number -/
def lw_ps : List (Nat × Nat × Nat × Nat) := [(41, 1, 78, 2), (40, 9, 78, 15), (40, 8, 78, 16), (48, 5, 78, 36)]
def lw_tie (S : cq_S) (q : Nat × Nat × Nat × Nat) : Bool := match cq_tl (false, q.1) (cq_c (q.2.1 : Int)) S.T, cq_tl (false, q.2.2.1) (cq_c (q.2.2.2 : Int)) S.T with
  | some (1, f, _), some (1, g, _) => cq_en S.P (cq_sub f g) && cq_en S.P (cq_sub g f)
  | _, _ => false
def lw_chk (Z : cq_Z) : Bool := match Z with
  | (_, _, [(5, _, k0), (5, _, k1), (5, _, k2), (1, fi, _)], [], [], db, S) => Nat.beq k0 0 && Nat.beq k1 40 && Nat.beq k2 78 && cq_fe fi (cq_ac (cq_s 0) 6) && S.U.isNone && Nat.ble S.ac 0 && Nat.ble S.al 624 && Nat.ble 100 db && cq_en S.P (cq_ac (cq_sub (cq_s 2) (cq_s 0)) (-6)) && lw_ps.all (lw_tie S)
  | _ => false
def lw_z : cq_Z := (0, 27, [cq_rc 0, cq_rc 40, cq_rc 78, cq_i (cq_s 0)], [], [], 100, lw_S)
/-- at the entry of a call that is done by hand -/
def lw_chkE (Z : cq_Z) : Bool := match Z with
  | (_, _, [(5, _, k0), (5, _, k1), (5, _, k2), (1, fi, _)], [], [], db, S) => Nat.beq k0 0 && Nat.beq k1 40 && Nat.beq k2 78 && cq_fe fi (cq_s 0) && S.U.isNone && Nat.ble S.ac 0 && Nat.ble S.al 0 && Nat.ble 100 db && lw_ps.all (lw_tie S)
  | _ => false
theorem lw_ex : cq_exec (cq_nxo 0 200 lw_chkE (cq_nxo 0 309 lw_chkE (cq_nxo 0 368 lw_chkE (cq_nxo 0 421 lw_chkE (cq_nxo 0 890 lw_chkE (cq_nxo 0 649 lw_chkE (cq_nxo 0 705 lw_chkE (cq_nxo 0 738 lw_chkE (cq_nxo 0 857 lw_chkE (cq_nxo 0 464 lw_chkE (cq_nxo 0 995 lw_chkE (cq_nxo 0 487 lw_chkE (cq_nxo 0 530 lw_chkE (cq_nxo 0 573 lw_chkE (cq_nxo 0 616 lw_chkE (cq_nxo 0 913 lw_chkE (cq_nxo 0 946 lw_chkE (cq_nxo 0 972 lw_chkE (cq_nxo 0 1018 lw_chkE (cq_nxo 0 1031 lw_chkE (cq_nxo 0 1064 lw_chkE (cq_nxo 0 1087 lw_chkE (cq_nxo 0 1110 lw_chkE (cq_nxo 0 1156 lw_chkE (cq_nxo 0 1297 lw_chk (cq_nx lw_m lw_ck (cq_cl0 lw_m lw_ck lw_t))))))))))))))))))))))))))) (fun _ => none) 0 100000 [] lw_z = true := by decide +kernel
theorem lw_mX_rT : rT_m lw_m = true := by decide +kernel
theorem lw_mX_rp_P : rp_Pm lw_m = true := by decide +kernel
theorem lw_mX_rp_C : rp_Cm lw_m = true := by decide +kernel
theorem lw_mX_rL : rL_m lw_m = true := by decide +kernel
theorem lw_mX_rbV : rbV_m lw_m = true := by decide +kernel
theorem lw_mX_rD : rD_m lw_m = true := by decide +kernel
theorem lw_mX_rB : rB_m lw_m = true := by decide +kernel
theorem lw_mX_rQ : rQ_m lw_m = true := by decide +kernel
theorem lw_mX_rY : rY_m lw_m = true := by decide +kernel
theorem lw_mX_rG : rG_m lw_m = true := by decide +kernel
