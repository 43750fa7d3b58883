/-! THE LAW'S LOOP -/
theorem cq_HC_g {m : cq_W} {h0 : am_H} {ρ0 : Nat → Int} {n0 : Nat} {Fin : Option Value × am_H → Prop} {ck : Bool → List cq_A → cq_S → Bool} {cts : Nat → Option cq_Ct} (HE : cq_HE m h0 ρ0 n0 ck Fin) (HT : cq_TK m h0 cts) : cq_HC m h0 ρ0 n0 Fin (cq_cl0 m ck cts) := by
  intro e Z out ρ1 ls st h2 fs d2 a hn hc hi hq H hd K
  unfold cq_cl0 at hq
  split at hq
  · rename_i c' hc'
    obtain ⟨wf', CT', UT'⟩ := HT _ c' hc'
    exact cq_cc_ok HE a hn wf' CT' UT' hc hi hq H hd K
  · split at hq
    · rename_i Z' hz
      rw [← Option.some.inj hq] at K
      refine cq_inl_ok hc hi hz H hd fun ls' st' fs' d' R' hd' => ?_
      refine K.one List.mem_cons_self cq_ag.rf ?_ R' hd'
      obtain ⟨y1, pc1, als1, ast1, fr1, db1, S1⟩ := Z
      unfold cq_inl at hz
      split at hz
      · rename_i heq
        cases heq
        rw [cond_eq_ite] at hz
        split at hz
        · rw [← Option.some.inj hz]
          exact Nat.le_refl _
        · cases hz
      · cases hz
    · cases hq
def lw_m : cq_W := [(false, 100, 0, 0), (false, 101, 0, 0), (false, 102, 0, 0), (false, 114, 0, 0), (false, 115, 0, 0), (false, 116, 0, 0), (false, 118, 0, 0), (false, 119, 0, 0), (false, 120, 0, 0), (false, 121, 0, 0), (false, 122, 0, 0), (false, 123, 0, 0), (false, 124, 0, 0), (false, 125, 0, 0), (false, 126, 0, 0), (false, 127, 0, 0), (false, 128, 0, 0), (false, 129, 0, 0), (false, 40, 10, 0), (false, 40, 11, 0), (false, 40, 12, 0), (false, 40, 16, 0), (false, 40, 19, 0), (false, 40, 20, 0), (false, 41, 2, 0), (false, 41, 3, 0), (false, 41, 4, 0), (false, 41, 5, 0), (false, 41, 6, 0), (false, 41, 7, 0), (false, 48, 6, 0), (false, 50, 0, 0), (false, 51, 0, 0), (false, 52, 0, 0), (false, 54, 4, 0), (false, 54, 5, 0), (false, 54, 6, 0), (false, 55, 0, 0), (false, 56, 0, 0), (false, 58, 0, 0), (false, 59, 0, 0), (false, 60, 0, 0), (false, 61, 0, 0), (false, 62, 0, 0), (false, 63, 1, 0), (false, 63, 10, 0), (false, 63, 11, 0), (false, 63, 12, 0), (false, 63, 4, 0), (false, 63, 5, 0), (false, 63, 6, 0), (false, 63, 7, 0), (false, 63, 8, 0), (false, 63, 9, 0), (false, 64, 0, 0), (false, 65, 0, 0), (false, 67, 5, 0), (false, 68, 0, 0), (false, 69, 0, 0), (false, 70, 0, 0), (false, 71, 0, 0), (false, 72, 1, 0), (false, 72, 10, 0), (false, 72, 11, 0), (false, 72, 12, 0), (false, 72, 13, 0), (false, 72, 14, 0), (false, 72, 2, 0), (false, 72, 3, 0), (false, 72, 4, 0), (false, 72, 5, 0), (false, 72, 6, 0), (false, 72, 7, 0), (false, 72, 8, 0), (false, 72, 9, 0), (false, 75, 0, 0), (false, 76, 0, 0), (false, 77, 0, 0), (false, 78, 10, 0), (false, 78, 16, 0), (false, 78, 3, 0), (false, 78, 33, 0), (false, 78, 37, 0), (false, 78, 4, 0), (false, 78, 5, 0), (false, 78, 52, 0), (false, 78, 53, 0), (false, 78, 55, 0), (false, 78, 56, 0), (false, 78, 6, 0), (false, 78, 63, 0), (false, 78, 64, 0), (false, 78, 65, 0), (false, 78, 69, 0), (false, 78, 7, 0), (false, 78, 70, 0), (false, 78, 71, 0), (false, 78, 72, 0), (false, 78, 73, 0), (false, 78, 74, 0), (false, 78, 75, 0), (false, 78, 76, 0), (false, 78, 8, 0), (false, 78, 81, 0), (false, 78, 82, 0), (false, 78, 9, 0), (false, 92, 0, 0), (false, 93, 0, 0), (false, 94, 0, 0), (false, 95, 0, 0), (false, 96, 0, 0), (false, 97, 0, 0), (false, 98, 0, 0), (false, 99, 0, 0), (true, 0, 1, 3), (true, 0, 1, 4), (true, 0, 1, 5), (true, 0, 1, 6), (true, 0, 1, 7), (true, 0, 1, 8), (true, 0, 3, 10), (true, 0, 3, 4), (true, 0, 3, 5), (true, 0, 3, 6), (true, 0, 3, 7), (true, 0, 3, 8), (true, 0, 3, 9), (true, 0, 6, 7), (true, 1, 0, 0), (true, 1, 3, 0), (true, 1, 7, 0)]
def lw_t : Nat → Option cq_Ct := (cq_tc 16 ct_16u (cq_tc 164 ct_164u (cq_tc 17 ct_17u (cq_tc 166 ct_166u (cq_tc 34 ct_34 (cq_tc 183 ct_183 (cq_tc 35 ct_35 (cq_tc 184 ct_184 (cq_tc 43 ct_43t (cq_tc 189 ct_189 (cq_tc 51 ct_51 (cq_tc 195 ct_195 (cq_tc 65 ct_65 (cq_tc 202 ct_202 (cq_tc 67 ct_67 (cq_tc 204 ct_204 (cq_tc 73 ct_73 (cq_tc 207 ct_207 (cq_tc 90 ct_90u (cq_tc 217 ct_217u (cq_tc 92 ct_92 (cq_tc 218 ct_218 (cq_tc 99 ct_99u (cq_tc 224 ct_224u (cq_tc 103 ct_103 (cq_tc 226 ct_226 (cq_tc 106 ct_106 (cq_tc 234 ct_234 (cq_tc 114 ct_114 (cq_tc 237 ct_237 (cq_tc 115 ct_115 (cq_tc 238 ct_238 (cq_tc 118 ct_118 (cq_tc 239 ct_239 (cq_tc 128 ct_128t (cq_tc 247 ct_247 (cq_tc 132 ct_132 (cq_tc 248 ct_248 (cq_tc 135 ct_135 (cq_tc 250 ct_250 (cq_tc 136 ct_136 (cq_tc 251 ct_251 (cq_tc 142 ct_142 (cq_tc 253 ct_253 (cq_tc 149 ct_149 (cq_tc 257 ct_257 (cq_tc 151 ct_151 (cq_tc 258 ct_258 (cq_tc 156 ct_156 (cq_tc 259 ct_259 (cq_tc 157 ct_157 (cq_tc 260 ct_260 (cq_tc 158 ct_158 (cq_tc 261 ct_261 (cq_tc 159 ct_159 (cq_tc 262 ct_262 (cq_tc 160 ct_160 (cq_tc 263 ct_263 cq_t0))))))))))))))))))))))))))))))))))))))))))))))))))))))))))
theorem lw_t_ok : ∀ h, cq_Inv none h → cq_TK lw_m h lw_t := (cq_tc_ok wf_16u ok_16u (cq_tc_ok wf_164u ok_164u (cq_tc_ok wf_17u ok_17u (cq_tc_ok wf_166u ok_166u (cq_tc_ok wf_34 ok_34 (cq_tc_ok wf_183 ok_183 (cq_tc_ok wf_35 ok_35 (cq_tc_ok wf_184 ok_184 (cq_tc_ok wf_43t ok_43t (cq_tc_ok wf_189 ok_189 (cq_tc_ok wf_51 ok_51 (cq_tc_ok wf_195 ok_195 (cq_tc_ok wf_65 ok_65 (cq_tc_ok wf_202 ok_202 (cq_tc_ok wf_67 ok_67 (cq_tc_ok wf_204 ok_204 (cq_tc_ok wf_73 ok_73 (cq_tc_ok wf_207 ok_207 (cq_tc_ok wf_90u ok_90u (cq_tc_ok wf_217u ok_217u (cq_tc_ok wf_92 ok_92 (cq_tc_ok wf_218 ok_218 (cq_tc_ok wf_99u ok_99u (cq_tc_ok wf_224u ok_224u (cq_tc_ok wf_103 ok_103 (cq_tc_ok wf_226 ok_226 (cq_tc_ok wf_106 ok_106 (cq_tc_ok wf_234 ok_234 (cq_tc_ok wf_114 ok_114 (cq_tc_ok wf_237 ok_237 (cq_tc_ok wf_115 ok_115 (cq_tc_ok wf_238 ok_238 (cq_tc_ok wf_118 ok_118 (cq_tc_ok wf_239 ok_239 (cq_tc_ok wf_128t ok_128t (cq_tc_ok wf_247 ok_247 (cq_tc_ok wf_132 ok_132 (cq_tc_ok wf_248 ok_248 (cq_tc_ok wf_135 ok_135 (cq_tc_ok wf_250 ok_250 (cq_tc_ok wf_136 ok_136 (cq_tc_ok wf_251 ok_251 (cq_tc_ok wf_142 ok_142 (cq_tc_ok wf_253 ok_253 (cq_tc_ok wf_149 ok_149 (cq_tc_ok wf_257 ok_257 (cq_tc_ok wf_151 ok_151 (cq_tc_ok wf_258 ok_258 (cq_tc_ok wf_156 ok_156 (cq_tc_ok wf_259 ok_259 (cq_tc_ok wf_157 ok_157 (cq_tc_ok wf_260 ok_260 (cq_tc_ok wf_158 ok_158 (cq_tc_ok wf_261 ok_261 (cq_tc_ok wf_159 ok_159 (cq_tc_ok wf_262 ok_262 (cq_tc_ok wf_160 ok_160 (cq_tc_ok wf_263 ok_263 cq_t0_ok))))))))))))))))))))))))))))))))))))))))))))))))))))))))))
def lw_S : cq_S := cq_mk 11 ([(0, 0, 3078), (1, 0, 1600), (2, 0, 3072), (3, (-2147483648), 2147483647), (4, (-2147483648), 2147483647), (5, (-2147483648), 2147483647), (6, (-2147483648), 2147483647), (7, (-2147483648), 2147483647), (8, 0, 29999), (9, 0, 40), (10, 0, 60)], [((-6), [(0, (-1)), (2, 1)])]) [] [] [] [((false, 41), (1, []), (1, (0, [(1, 1)]), 0)), ((false, 78), (2, []), (1, (0, [(1, 1)]), 0)), ((false, 40), (9, []), (1, (0, [(8, 1)]), 0)), ((false, 78), (15, []), (1, (0, [(8, 1)]), 0)), ((false, 40), (8, []), (1, (0, [(9, 1)]), 0)), ((false, 78), (16, []), (1, (0, [(9, 1)]), 0)), ((false, 48), (5, []), (1, (0, [(10, 1)]), 0)), ((false, 78), (36, []), (1, (0, [(10, 1)]), 0)), ((false, 0), (1, [(0, 1)]), (1, (0, [(3, 1)]), 0)), ((false, 0), (2, [(0, 1)]), (1, (0, [(4, 1)]), 0)), ((false, 0), (3, [(0, 1)]), (1, (0, [(5, 1)]), 0)), ((false, 0), (4, [(0, 1)]), (1, (0, [(6, 1)]), 0)), ((false, 0), (5, [(0, 1)]), (1, (0, [(7, 1)]), 0))] [((false, 0), (0, [(2, 1)]))] [] none 0 0
def lw_ck (t : Bool) (vs : List cq_A) (S : cq_S) : Bool := !t && Nat.beq S.ac 0 && Nat.beq S.al 0 && (match vs with
  | [(1, f, _)] => cq_fe f (cq_c 1)
  | _ => false)
/-- places of both sides that hold the same number -/
def lw_ps : List (Nat × Nat × Nat × Nat) := [(41, 1, 78, 2), (40, 9, 78, 15), (40, 8, 78, 16), (48, 5, 78, 36)]
def lw_tie (S : cq_S) (q : Nat × Nat × Nat × Nat) : Bool := match cq_tl (false, q.1) (cq_c (q.2.1 : Int)) S.T, cq_tl (false, q.2.2.1) (cq_c (q.2.2.2 : Int)) S.T with
  | some (1, f, _), some (1, g, _) => cq_en S.P (cq_sub f g) && cq_en S.P (cq_sub g f)
  | _, _ => false
def lw_chk (Z : cq_Z) : Bool := match Z with
  | (_, _, [(5, _, k0), (5, _, k1), (5, _, k2), (1, fi, _)], [], [], db, S) => Nat.beq k0 0 && Nat.beq k1 40 && Nat.beq k2 78 && cq_fe fi (cq_ac (cq_s 0) 6) && S.U.isNone && Nat.ble S.ac 12 && Nat.ble S.al 624 && Nat.ble 100 db && cq_en S.P (cq_ac (cq_sub (cq_s 2) (cq_s 0)) (-6)) && lw_ps.all (lw_tie S)
  | _ => false
def lw_z : cq_Z := (0, 27, [cq_rc 0, cq_rc 40, cq_rc 78, cq_i (cq_s 0)], [], [], 100, lw_S)
/-- at the entry of a call that is done by hand -/
def lw_chkE (Z : cq_Z) : Bool := match Z with
  | (_, _, [(5, _, k0), (5, _, k1), (5, _, k2), (1, fi, _)], [], [], db, S) => Nat.beq k0 0 && Nat.beq k1 40 && Nat.beq k2 78 && cq_fe fi (cq_s 0) && S.U.isNone && Nat.ble S.ac 0 && Nat.ble S.al 0 && Nat.ble 100 db && lw_ps.all (lw_tie S)
  | _ => false
theorem lw_ex : cq_exec (cq_nxo 0 200 lw_chkE (cq_nxo 0 309 lw_chkE (cq_nxo 0 368 lw_chkE (cq_nxo 0 421 lw_chkE (cq_nxo 0 890 lw_chkE (cq_nxo 0 649 lw_chkE (cq_nxo 0 705 lw_chkE (cq_nxo 0 672 lw_chkE (cq_nxo 0 824 lw_chkE (cq_nxo 0 1297 lw_chk (cq_nx lw_m lw_ck (cq_cl0 lw_m lw_ck lw_t)))))))))))) (fun _ => none) 0 100000 [] lw_z = true := by decide +kernel
theorem lw_mX_rT : rT_m lw_m = true := by decide +kernel
theorem lw_mX_rp_P : rp_Pm lw_m = true := by decide +kernel
theorem lw_mX_rp_C : rp_Cm lw_m = true := by decide +kernel
theorem lw_mX_rL : rL_m lw_m = true := by decide +kernel
theorem lw_mX_rbV : rbV_m lw_m = true := by decide +kernel
