/-! THE LAW'S LOOP, 3: all turns -/
abbrev lw_T (h : am_H) (q : Nat × Nat × Nat × Nat) : Prop := tT h q
theorem lw_tie_ok {m : cq_W} {h0 h2 : am_H} {ρ : Nat → Int} {S : cq_S} (D : cq_Md m h0 ρ S h2) {q : Nat × Nat × Nat × Nat} (z : lw_tie S q = true) : lw_T h2 q := by
  unfold lw_tie at z
  split at z
  · rename_i f kf g kg hf hg
    have z := (Bool.and_eq_true _ _ ▸ z)
    have p1 := cq_en_ok D.P z.1
    have p2 := cq_en_ok D.P z.2
    rw [cq_sub_e] at p1 p2
    obtain ⟨x1, ex1, hx1⟩ := D.T _ (cq_tl_ok hf)
    obtain ⟨x2, ex2, hx2⟩ := D.T _ (cq_tl_ok hg)
    have ex1 : h2.2.2.2 q.1 (cq_e ρ (cq_c (q.2.1 : Int))).toNat = .int x1 := ex1
    have ex2 : h2.2.2.2 q.2.2.1 (cq_e ρ (cq_c (q.2.2.2 : Int))).toNat = .int x2 := ex2
    rw [cq_c_e, Int.toNat_natCast] at ex1 ex2
    have ex : x1 = x2 := Int32.toInt_inj.1 (by rw [hx1, hx2]; omega)
    subst ex
    exact ⟨x1, ex1, ex2⟩
  · cases z
theorem lw_tie_in {h : am_H} {c j lo hi : Nat} {t : Int32} (q : h.2.2.2 c j = .int t) (k : ∃ x : Int32, h.2.2.2 c j = .int x ∧ (lo : Int) ≤ x.toInt ∧ x.toInt ≤ hi) : (lo : Int) ≤ t.toInt ∧ t.toInt ≤ hi := by
  obtain ⟨x, e, a, b⟩ := k
  rw [q] at e
  cases e
  exact ⟨a, b⟩
def lw_tq (Q : List (Nat × Nat × Nat × Nat)) (q : Nat × Nat × Nat × Nat) : Bool := Q.any fun r => Nat.beq r.1 q.1 && Nat.beq r.2.1 q.2.1 && Nat.beq r.2.2.1 q.2.2.1 && Nat.beq r.2.2.2 q.2.2.2
def lw_tm (m1 m2 : cq_W) (Q : List (Nat × Nat × Nat × Nat)) : Bool := lw_ps.all fun q => lw_tq Q q || (Nat.blt q.1 130 && Nat.blt q.2.2.1 130 && lw_nF m1 q.1 q.2.1 && lw_nF m1 q.2.2.1 q.2.2.2 && lw_nF m2 q.1 q.2.1 && lw_nF m2 q.2.2.1 q.2.2.2)
theorem lw_TT {m1 m2 : cq_W} {Q : List (Nat × Nat × Nat × Nat)} {h h1 h2 : am_H} (I : cq_Inv none h) (I1 : cq_Inv none h1) (F1 : cq_Fr m1 h h1) (F2 : cq_Fr m2 h1 h2) (q1 : lw_tm m1 m2 Q = true) (TQ : ∀ q ∈ Q, tT h2 q) (T : ∀ q ∈ lw_ps, lw_T h q) : ∀ q ∈ lw_ps, lw_T h2 q := fun q hq => by
  rcases Bool.or_eq_true _ _ ▸ List.all_eq_true.1 q1 q hq with z | z
  · obtain ⟨r, hr, z⟩ := List.any_eq_true.1 z
    have b1 := (Bool.and_eq_true _ _ ▸ z)
    have b2 := (Bool.and_eq_true _ _ ▸ b1.1)
    have b3 := (Bool.and_eq_true _ _ ▸ b2.1)
    have e : r = q := Prod.ext (am_beq b3.1) (Prod.ext (am_beq b3.2) (Prod.ext (am_beq b2.2) (am_beq b1.2)))
    rw [← e]
    exact TQ r hr
  · have b1 := (Bool.and_eq_true _ _ ▸ z)
    have b2 := (Bool.and_eq_true _ _ ▸ b1.1)
    have b3 := (Bool.and_eq_true _ _ ▸ b2.1)
    have b4 := (Bool.and_eq_true _ _ ▸ b3.1)
    have b5 := (Bool.and_eq_true _ _ ▸ b4.1)
    have c1 : q.1 < 130 := Nat.le_of_ble_eq_true b5.1
    have c2 : q.2.2.1 < 130 := Nat.le_of_ble_eq_true b5.2
    obtain ⟨t, t1, t2⟩ := T q hq
    exact ⟨t, by rw [lw_frF F2 I1.lo c1 b2.2, lw_frF F1 I.lo c1 b4.2, t1], by rw [lw_frF F2 I1.lo c2 b1.2, lw_frF F1 I.lo c2 b3.2, t2]⟩
theorem lw_ix {i : Int32} (k : Nat) (h0 : 0 ≤ i.toInt) (h1 : i.toInt ≤ 3078) (hk : k < 100) : (i + Int32.ofInt k).toInt = i.toInt + k := by
  have e : (Int32.ofInt (k : Int)).toInt = (k : Int) := Int32.toInt_ofInt_of_le (by omega) (by omega)
  rw [Int32.toInt_add, e, Int.bmod_eq_of_le (by omega) (by omega)]
theorem lw_rd {h : am_H} (I : cq_Inv none h) {L : Nat} (hl : (h.2.2.1 0).2.2 = L) {i v : Int32} {k : Nat} (h0 : 0 ≤ i.toInt) (h1 : i.toInt ≤ 3078) (hk : k < 6) (h6 : i.toInt + 6 ≤ L) (hv : h.2.2.2 0 (i.toInt.toNat + k) = .int v) : am_rd h 0 (i + Int32.ofInt (k : Int)) (fun c => Nat.beq c 0) = some (.int v) := by
  have e := lw_ix (i := i) k h0 h1 (by omega)
  have lo := I.lo
  have s : h.2.2.1 0 = (2, 0, L) := Prod.ext I.sc.1 (Prod.ext I.sc.2.1 hl)
  rw [ax_rdv (a := 0) (n := L) (tc := 0) (kd := 2) (by omega) s (by decide) (by decide) (by omega) (by omega)]
  have : (i + Int32.ofInt (k : Int)).toInt.toNat = i.toInt.toNat + k := by omega
  rw [this, hv]
theorem sp_0 {h h1 h2 : am_H} {d : Nat} {i r v1 v2 v3 v4 v5 : Int32} {x : Option Value × am_H} (O40 : am_isO h 40 11 = true) (O78 : am_isO h1 78 13 = true) (Hc : am_ev d 14 0 (am_ent [.ref 40, .int v1, .int v2, .int v3, .int v4, .int v5] (am_in 14).2.2.1) [] h (some (.int r), h1)) (Hm : am_ev d 162 0 (am_ent [.ref 78, .int v1, .int v2, .int v3, .int v4, .int v5] (am_in 162).2.2.1) [] h1 (some (.int r), h2)) (a1 : am_rd h 0 (i + Int32.ofInt 1) (fun c => Nat.beq c 0) = some (.int v1)) (a2 : am_rd h 0 (i + Int32.ofInt 2) (fun c => Nat.beq c 0) = some (.int v2)) (a3 : am_rd h 0 (i + Int32.ofInt 3) (fun c => Nat.beq c 0) = some (.int v3)) (a4 : am_rd h 0 (i + Int32.ofInt 4) (fun c => Nat.beq c 0) = some (.int v4)) (a5 : am_rd h 0 (i + Int32.ofInt 5) (fun c => Nat.beq c 0) = some (.int v5)) (b1 : am_rd h1 0 (i + Int32.ofInt 1) (fun c => Nat.beq c 0) = some (.int v1)) (b2 : am_rd h1 0 (i + Int32.ofInt 2) (fun c => Nat.beq c 0) = some (.int v2)) (b3 : am_rd h1 0 (i + Int32.ofInt 3) (fun c => Nat.beq c 0) = some (.int v3)) (b4 : am_rd h1 0 (i + Int32.ofInt 4) (fun c => Nat.beq c 0) = some (.int v4)) (b5 : am_rd h1 0 (i + Int32.ofInt 5) (fun c => Nat.beq c 0) = some (.int v5)) (q : am_ev (d + 1) 0 18 [.ref 0, .ref 40, .ref 78, .int (i + Int32.ofInt 6)] [] h2 x) : am_ev (d + 1) 0 200 [.ref 0, .ref 40, .ref 78, .int i] [] h x := by
  refine am_ev.step (pc' := 201) rfl rfl ?_
  refine am_ev.step (pc' := 202) rfl rfl ?_
  refine am_ev.step (pc' := 203) rfl rfl ?_
  refine am_ev.step (pc' := 204) rfl rfl ?_
  refine am_ev.step (pc' := 205) rfl rfl ?_
  refine ax_iaload (p' := 206) rfl rfl a1 ?_
  refine am_ev.step (pc' := 207) rfl rfl ?_
  refine am_ev.step (pc' := 208) rfl rfl ?_
  refine am_ev.step (pc' := 209) rfl rfl ?_
  refine am_ev.step (pc' := 210) rfl rfl ?_
  refine ax_iaload (p' := 211) rfl rfl a2 ?_
  refine am_ev.step (pc' := 212) rfl rfl ?_
  refine am_ev.step (pc' := 213) rfl rfl ?_
  refine am_ev.step (pc' := 214) rfl rfl ?_
  refine am_ev.step (pc' := 215) rfl rfl ?_
  refine ax_iaload (p' := 216) rfl rfl a3 ?_
  refine am_ev.step (pc' := 217) rfl rfl ?_
  refine am_ev.step (pc' := 218) rfl rfl ?_
  refine am_ev.step (pc' := 219) rfl rfl ?_
  refine am_ev.step (pc' := 220) rfl rfl ?_
  refine ax_iaload (p' := 221) rfl rfl a4 ?_
  refine am_ev.step (pc' := 222) rfl rfl ?_
  refine am_ev.step (pc' := 223) rfl rfl ?_
  refine am_ev.step (pc' := 224) rfl rfl ?_
  refine am_ev.step (pc' := 225) rfl rfl ?_
  refine ax_iaload (p' := 226) rfl rfl a5 ?_
  refine ax_call (z := 14) (p' := 229) (as := [_, _, _, _, _, _]) rfl (Or.inr (Or.inl ⟨_, rfl⟩)) rfl rfl rfl rfl rfl rfl O40 rfl Hc rfl ?_
  refine am_ev.step (pc' := 230) rfl rfl ?_
  refine am_ev.step (pc' := 231) rfl rfl ?_
  refine am_ev.step (pc' := 232) rfl rfl ?_
  refine am_ev.step (pc' := 233) rfl rfl ?_
  refine am_ev.step (pc' := 234) rfl rfl ?_
  refine am_ev.step (pc' := 235) rfl rfl ?_
  refine ax_iaload (p' := 236) rfl rfl b1 ?_
  refine am_ev.step (pc' := 237) rfl rfl ?_
  refine am_ev.step (pc' := 238) rfl rfl ?_
  refine am_ev.step (pc' := 239) rfl rfl ?_
  refine am_ev.step (pc' := 240) rfl rfl ?_
  refine ax_iaload (p' := 241) rfl rfl b2 ?_
  refine am_ev.step (pc' := 242) rfl rfl ?_
  refine am_ev.step (pc' := 243) rfl rfl ?_
  refine am_ev.step (pc' := 244) rfl rfl ?_
  refine am_ev.step (pc' := 245) rfl rfl ?_
  refine ax_iaload (p' := 246) rfl rfl b3 ?_
  refine am_ev.step (pc' := 247) rfl rfl ?_
  refine am_ev.step (pc' := 248) rfl rfl ?_
  refine am_ev.step (pc' := 249) rfl rfl ?_
  refine am_ev.step (pc' := 250) rfl rfl ?_
  refine ax_iaload (p' := 251) rfl rfl b4 ?_
  refine am_ev.step (pc' := 252) rfl rfl ?_
  refine am_ev.step (pc' := 253) rfl rfl ?_
  refine am_ev.step (pc' := 254) rfl rfl ?_
  refine am_ev.step (pc' := 255) rfl rfl ?_
  refine ax_iaload (p' := 256) rfl rfl b5 ?_
  refine ax_call (z := 162) (p' := 259) (as := [_, _, _, _, _, _]) rfl (Or.inr (Or.inl ⟨_, rfl⟩)) rfl rfl rfl rfl rfl rfl O78 rfl Hm rfl ?_
  refine am_ev.step (pc' := 260) rfl rfl ?_
  refine am_ev.step (pc' := 1294) rfl rfl ?_
  refine am_ev.step (pc' := 1297) rfl rfl ?_
  refine am_ev.step (pc' := 18) rfl rfl ?_
  exact q
theorem sp_3 {h h1 h2 : am_H} {d : Nat} {i r  : Int32} {x : Option Value × am_H} (O40 : am_isO h 40 11 = true) (O78 : am_isO h1 78 13 = true) (Hc : am_ev d 18 0 (am_ent [.ref 40] (am_in 18).2.2.1) [] h (some (.int r), h1)) (Hm : am_ev d 167 0 (am_ent [.ref 78] (am_in 167).2.2.1) [] h1 (some (.int r), h2))   (q : am_ev (d + 1) 0 18 [.ref 0, .ref 40, .ref 78, .int (i + Int32.ofInt 6)] [] h2 x) : am_ev (d + 1) 0 309 [.ref 0, .ref 40, .ref 78, .int i] [] h x := by
  refine am_ev.step (pc' := 310) rfl rfl ?_
  refine ax_call (z := 18) (p' := 313) (as := [_]) rfl (Or.inr (Or.inl ⟨_, rfl⟩)) rfl rfl rfl rfl rfl rfl O40 rfl Hc rfl ?_
  refine am_ev.step (pc' := 314) rfl rfl ?_
  refine am_ev.step (pc' := 315) rfl rfl ?_
  refine ax_call (z := 167) (p' := 318) (as := [_]) rfl (Or.inr (Or.inl ⟨_, rfl⟩)) rfl rfl rfl rfl rfl rfl O78 rfl Hm rfl ?_
  refine am_ev.step (pc' := 319) rfl rfl ?_
  refine am_ev.step (pc' := 1294) rfl rfl ?_
  refine am_ev.step (pc' := 1297) rfl rfl ?_
  refine am_ev.step (pc' := 18) rfl rfl ?_
  exact q
theorem sp_6 {h h1 h2 : am_H} {d : Nat} {i r v1 v2 v3 v4 : Int32} {x : Option Value × am_H} (O40 : am_isO h 40 11 = true) (O78 : am_isO h1 78 13 = true) (Hc : am_ev d 38 0 (am_ent [.ref 40, .int v1, .int v2, .int v3, .int v4] (am_in 38).2.2.1) [] h (some (.int r), h1)) (Hm : am_ev d 185 0 (am_ent [.ref 78, .int v1, .int v2, .int v3, .int v4] (am_in 185).2.2.1) [] h1 (some (.int r), h2)) (a1 : am_rd h 0 (i + Int32.ofInt 1) (fun c => Nat.beq c 0) = some (.int v1)) (a2 : am_rd h 0 (i + Int32.ofInt 2) (fun c => Nat.beq c 0) = some (.int v2)) (a3 : am_rd h 0 (i + Int32.ofInt 3) (fun c => Nat.beq c 0) = some (.int v3)) (a4 : am_rd h 0 (i + Int32.ofInt 4) (fun c => Nat.beq c 0) = some (.int v4)) (b1 : am_rd h1 0 (i + Int32.ofInt 1) (fun c => Nat.beq c 0) = some (.int v1)) (b2 : am_rd h1 0 (i + Int32.ofInt 2) (fun c => Nat.beq c 0) = some (.int v2)) (b3 : am_rd h1 0 (i + Int32.ofInt 3) (fun c => Nat.beq c 0) = some (.int v3)) (b4 : am_rd h1 0 (i + Int32.ofInt 4) (fun c => Nat.beq c 0) = some (.int v4)) (q : am_ev (d + 1) 0 18 [.ref 0, .ref 40, .ref 78, .int (i + Int32.ofInt 6)] [] h2 x) : am_ev (d + 1) 0 368 [.ref 0, .ref 40, .ref 78, .int i] [] h x := by
  refine am_ev.step (pc' := 369) rfl rfl ?_
  refine am_ev.step (pc' := 370) rfl rfl ?_
  refine am_ev.step (pc' := 371) rfl rfl ?_
  refine am_ev.step (pc' := 372) rfl rfl ?_
  refine am_ev.step (pc' := 373) rfl rfl ?_
  refine ax_iaload (p' := 374) rfl rfl a1 ?_
  refine am_ev.step (pc' := 375) rfl rfl ?_
  refine am_ev.step (pc' := 376) rfl rfl ?_
  refine am_ev.step (pc' := 377) rfl rfl ?_
  refine am_ev.step (pc' := 378) rfl rfl ?_
  refine ax_iaload (p' := 379) rfl rfl a2 ?_
  refine am_ev.step (pc' := 380) rfl rfl ?_
  refine am_ev.step (pc' := 381) rfl rfl ?_
  refine am_ev.step (pc' := 382) rfl rfl ?_
  refine am_ev.step (pc' := 383) rfl rfl ?_
  refine ax_iaload (p' := 384) rfl rfl a3 ?_
  refine am_ev.step (pc' := 385) rfl rfl ?_
  refine am_ev.step (pc' := 386) rfl rfl ?_
  refine am_ev.step (pc' := 387) rfl rfl ?_
  refine am_ev.step (pc' := 388) rfl rfl ?_
  refine ax_iaload (p' := 389) rfl rfl a4 ?_
  refine ax_call (z := 38) (p' := 392) (as := [_, _, _, _, _]) rfl (Or.inr (Or.inl ⟨_, rfl⟩)) rfl rfl rfl rfl rfl rfl O40 rfl Hc rfl ?_
  refine am_ev.step (pc' := 393) rfl rfl ?_
  refine am_ev.step (pc' := 394) rfl rfl ?_
  refine am_ev.step (pc' := 395) rfl rfl ?_
  refine am_ev.step (pc' := 396) rfl rfl ?_
  refine am_ev.step (pc' := 397) rfl rfl ?_
  refine am_ev.step (pc' := 398) rfl rfl ?_
  refine ax_iaload (p' := 399) rfl rfl b1 ?_
  refine am_ev.step (pc' := 400) rfl rfl ?_
  refine am_ev.step (pc' := 401) rfl rfl ?_
  refine am_ev.step (pc' := 402) rfl rfl ?_
  refine am_ev.step (pc' := 403) rfl rfl ?_
  refine ax_iaload (p' := 404) rfl rfl b2 ?_
  refine am_ev.step (pc' := 405) rfl rfl ?_
  refine am_ev.step (pc' := 406) rfl rfl ?_
  refine am_ev.step (pc' := 407) rfl rfl ?_
  refine am_ev.step (pc' := 408) rfl rfl ?_
  refine ax_iaload (p' := 409) rfl rfl b3 ?_
  refine am_ev.step (pc' := 410) rfl rfl ?_
  refine am_ev.step (pc' := 411) rfl rfl ?_
  refine am_ev.step (pc' := 412) rfl rfl ?_
  refine am_ev.step (pc' := 413) rfl rfl ?_
  refine ax_iaload (p' := 414) rfl rfl b4 ?_
  refine ax_call (z := 185) (p' := 417) (as := [_, _, _, _, _]) rfl (Or.inr (Or.inl ⟨_, rfl⟩)) rfl rfl rfl rfl rfl rfl O78 rfl Hm rfl ?_
  refine am_ev.step (pc' := 418) rfl rfl ?_
  refine am_ev.step (pc' := 1294) rfl rfl ?_
  refine am_ev.step (pc' := 1297) rfl rfl ?_
  refine am_ev.step (pc' := 18) rfl rfl ?_
  exact q
theorem sp_7 {h h1 h2 : am_H} {d : Nat} {i r v1 v2 v3 : Int32} {x : Option Value × am_H} (O40 : am_isO h 40 11 = true) (O78 : am_isO h1 78 13 = true) (Hc : am_ev d 41 0 (am_ent [.ref 40, .int v1, .int v2, .int v3] (am_in 41).2.2.1) [] h (some (.int r), h1)) (Hm : am_ev d 187 0 (am_ent [.ref 78, .int v1, .int v2, .int v3] (am_in 187).2.2.1) [] h1 (some (.int r), h2)) (a1 : am_rd h 0 (i + Int32.ofInt 1) (fun c => Nat.beq c 0) = some (.int v1)) (a2 : am_rd h 0 (i + Int32.ofInt 2) (fun c => Nat.beq c 0) = some (.int v2)) (a3 : am_rd h 0 (i + Int32.ofInt 3) (fun c => Nat.beq c 0) = some (.int v3)) (b1 : am_rd h1 0 (i + Int32.ofInt 1) (fun c => Nat.beq c 0) = some (.int v1)) (b2 : am_rd h1 0 (i + Int32.ofInt 2) (fun c => Nat.beq c 0) = some (.int v2)) (b3 : am_rd h1 0 (i + Int32.ofInt 3) (fun c => Nat.beq c 0) = some (.int v3)) (q : am_ev (d + 1) 0 18 [.ref 0, .ref 40, .ref 78, .int (i + Int32.ofInt 6)] [] h2 x) : am_ev (d + 1) 0 421 [.ref 0, .ref 40, .ref 78, .int i] [] h x := by
  refine am_ev.step (pc' := 422) rfl rfl ?_
  refine am_ev.step (pc' := 423) rfl rfl ?_
  refine am_ev.step (pc' := 424) rfl rfl ?_
  refine am_ev.step (pc' := 425) rfl rfl ?_
  refine am_ev.step (pc' := 426) rfl rfl ?_
  refine ax_iaload (p' := 427) rfl rfl a1 ?_
  refine am_ev.step (pc' := 428) rfl rfl ?_
  refine am_ev.step (pc' := 429) rfl rfl ?_
  refine am_ev.step (pc' := 430) rfl rfl ?_
  refine am_ev.step (pc' := 431) rfl rfl ?_
  refine ax_iaload (p' := 432) rfl rfl a2 ?_
  refine am_ev.step (pc' := 433) rfl rfl ?_
  refine am_ev.step (pc' := 434) rfl rfl ?_
  refine am_ev.step (pc' := 435) rfl rfl ?_
  refine am_ev.step (pc' := 436) rfl rfl ?_
  refine ax_iaload (p' := 437) rfl rfl a3 ?_
  refine ax_call (z := 41) (p' := 440) (as := [_, _, _, _]) rfl (Or.inr (Or.inl ⟨_, rfl⟩)) rfl rfl rfl rfl rfl rfl O40 rfl Hc rfl ?_
  refine am_ev.step (pc' := 441) rfl rfl ?_
  refine am_ev.step (pc' := 442) rfl rfl ?_
  refine am_ev.step (pc' := 443) rfl rfl ?_
  refine am_ev.step (pc' := 444) rfl rfl ?_
  refine am_ev.step (pc' := 445) rfl rfl ?_
  refine am_ev.step (pc' := 446) rfl rfl ?_
  refine ax_iaload (p' := 447) rfl rfl b1 ?_
  refine am_ev.step (pc' := 448) rfl rfl ?_
  refine am_ev.step (pc' := 449) rfl rfl ?_
  refine am_ev.step (pc' := 450) rfl rfl ?_
  refine am_ev.step (pc' := 451) rfl rfl ?_
  refine ax_iaload (p' := 452) rfl rfl b2 ?_
  refine am_ev.step (pc' := 453) rfl rfl ?_
  refine am_ev.step (pc' := 454) rfl rfl ?_
  refine am_ev.step (pc' := 455) rfl rfl ?_
  refine am_ev.step (pc' := 456) rfl rfl ?_
  refine ax_iaload (p' := 457) rfl rfl b3 ?_
  refine ax_call (z := 187) (p' := 460) (as := [_, _, _, _]) rfl (Or.inr (Or.inl ⟨_, rfl⟩)) rfl rfl rfl rfl rfl rfl O78 rfl Hm rfl ?_
  refine am_ev.step (pc' := 461) rfl rfl ?_
  refine am_ev.step (pc' := 1294) rfl rfl ?_
  refine am_ev.step (pc' := 1297) rfl rfl ?_
  refine am_ev.step (pc' := 18) rfl rfl ?_
  exact q
theorem sp_20 {h h1 h2 : am_H} {d : Nat} {i r v1 : Int32} {x : Option Value × am_H} (O40 : am_isO h 40 11 = true) (O78 : am_isO h1 78 13 = true) (Hc : am_ev d 101 0 (am_ent [.ref 40, .int v1] (am_in 101).2.2.1) [] h (some (.int r), h1)) (Hm : am_ev d 225 0 (am_ent [.ref 78, .int v1] (am_in 225).2.2.1) [] h1 (some (.int r), h2)) (a1 : am_rd h 0 (i + Int32.ofInt 1) (fun c => Nat.beq c 0) = some (.int v1)) (b1 : am_rd h1 0 (i + Int32.ofInt 1) (fun c => Nat.beq c 0) = some (.int v1)) (q : am_ev (d + 1) 0 18 [.ref 0, .ref 40, .ref 78, .int (i + Int32.ofInt 6)] [] h2 x) : am_ev (d + 1) 0 890 [.ref 0, .ref 40, .ref 78, .int i] [] h x := by
  refine am_ev.step (pc' := 891) rfl rfl ?_
  refine am_ev.step (pc' := 892) rfl rfl ?_
  refine am_ev.step (pc' := 893) rfl rfl ?_
  refine am_ev.step (pc' := 894) rfl rfl ?_
  refine am_ev.step (pc' := 895) rfl rfl ?_
  refine ax_iaload (p' := 896) rfl rfl a1 ?_
  refine ax_call (z := 101) (p' := 899) (as := [_, _]) rfl (Or.inr (Or.inl ⟨_, rfl⟩)) rfl rfl rfl rfl rfl rfl O40 rfl Hc rfl ?_
  refine am_ev.step (pc' := 900) rfl rfl ?_
  refine am_ev.step (pc' := 901) rfl rfl ?_
  refine am_ev.step (pc' := 902) rfl rfl ?_
  refine am_ev.step (pc' := 903) rfl rfl ?_
  refine am_ev.step (pc' := 904) rfl rfl ?_
  refine am_ev.step (pc' := 905) rfl rfl ?_
  refine ax_iaload (p' := 906) rfl rfl b1 ?_
  refine ax_call (z := 225) (p' := 909) (as := [_, _]) rfl (Or.inr (Or.inl ⟨_, rfl⟩)) rfl rfl rfl rfl rfl rfl O78 rfl Hm rfl ?_
  refine am_ev.step (pc' := 910) rfl rfl ?_
  refine am_ev.step (pc' := 1294) rfl rfl ?_
  refine am_ev.step (pc' := 1297) rfl rfl ?_
  refine am_ev.step (pc' := 18) rfl rfl ?_
  exact q
theorem sp_13 {h h1 h2 : am_H} {d : Nat} {i r v1 : Int32} {x : Option Value × am_H} (O40 : am_isO h 40 11 = true) (O78 : am_isO h1 78 13 = true) (Hc : am_ev d 74 0 (am_ent [.ref 40, .int v1] (am_in 74).2.2.1) [] h (some (.int r), h1)) (Hm : am_ev d 208 0 (am_ent [.ref 78, .int v1] (am_in 208).2.2.1) [] h1 (some (.int r), h2)) (a1 : am_rd h 0 (i + Int32.ofInt 1) (fun c => Nat.beq c 0) = some (.int v1)) (b1 : am_rd h1 0 (i + Int32.ofInt 1) (fun c => Nat.beq c 0) = some (.int v1)) (q : am_ev (d + 1) 0 18 [.ref 0, .ref 40, .ref 78, .int (i + Int32.ofInt 6)] [] h2 x) : am_ev (d + 1) 0 649 [.ref 0, .ref 40, .ref 78, .int i] [] h x := by
  refine am_ev.step (pc' := 650) rfl rfl ?_
  refine am_ev.step (pc' := 651) rfl rfl ?_
  refine am_ev.step (pc' := 652) rfl rfl ?_
  refine am_ev.step (pc' := 653) rfl rfl ?_
  refine am_ev.step (pc' := 654) rfl rfl ?_
  refine ax_iaload (p' := 655) rfl rfl a1 ?_
  refine ax_call (z := 74) (p' := 658) (as := [_, _]) rfl (Or.inr (Or.inl ⟨_, rfl⟩)) rfl rfl rfl rfl rfl rfl O40 rfl Hc rfl ?_
  refine am_ev.step (pc' := 659) rfl rfl ?_
  refine am_ev.step (pc' := 660) rfl rfl ?_
  refine am_ev.step (pc' := 661) rfl rfl ?_
  refine am_ev.step (pc' := 662) rfl rfl ?_
  refine am_ev.step (pc' := 663) rfl rfl ?_
  refine am_ev.step (pc' := 664) rfl rfl ?_
  refine ax_iaload (p' := 665) rfl rfl b1 ?_
  refine ax_call (z := 208) (p' := 668) (as := [_, _]) rfl (Or.inr (Or.inl ⟨_, rfl⟩)) rfl rfl rfl rfl rfl rfl O78 rfl Hm rfl ?_
  refine am_ev.step (pc' := 669) rfl rfl ?_
  refine am_ev.step (pc' := 1294) rfl rfl ?_
  refine am_ev.step (pc' := 1297) rfl rfl ?_
  refine am_ev.step (pc' := 18) rfl rfl ?_
  exact q
theorem sp_15 {h h1 h2 : am_H} {d : Nat} {i r v1 v2 : Int32} {x : Option Value × am_H} (O40 : am_isO h 40 11 = true) (O78 : am_isO h1 78 13 = true) (Hc : am_ev d 89 0 (am_ent [.ref 40, .int v1, .int v2] (am_in 89).2.2.1) [] h (some (.int r), h1)) (Hm : am_ev d 215 0 (am_ent [.ref 78, .int v1, .int v2] (am_in 215).2.2.1) [] h1 (some (.int r), h2)) (a1 : am_rd h 0 (i + Int32.ofInt 1) (fun c => Nat.beq c 0) = some (.int v1)) (a2 : am_rd h 0 (i + Int32.ofInt 2) (fun c => Nat.beq c 0) = some (.int v2)) (b1 : am_rd h1 0 (i + Int32.ofInt 1) (fun c => Nat.beq c 0) = some (.int v1)) (b2 : am_rd h1 0 (i + Int32.ofInt 2) (fun c => Nat.beq c 0) = some (.int v2)) (q : am_ev (d + 1) 0 18 [.ref 0, .ref 40, .ref 78, .int (i + Int32.ofInt 6)] [] h2 x) : am_ev (d + 1) 0 705 [.ref 0, .ref 40, .ref 78, .int i] [] h x := by
  refine am_ev.step (pc' := 706) rfl rfl ?_
  refine am_ev.step (pc' := 707) rfl rfl ?_
  refine am_ev.step (pc' := 708) rfl rfl ?_
  refine am_ev.step (pc' := 709) rfl rfl ?_
  refine am_ev.step (pc' := 710) rfl rfl ?_
  refine ax_iaload (p' := 711) rfl rfl a1 ?_
  refine am_ev.step (pc' := 712) rfl rfl ?_
  refine am_ev.step (pc' := 713) rfl rfl ?_
  refine am_ev.step (pc' := 714) rfl rfl ?_
  refine am_ev.step (pc' := 715) rfl rfl ?_
  refine ax_iaload (p' := 716) rfl rfl a2 ?_
  refine ax_call (z := 89) (p' := 719) (as := [_, _, _]) rfl (Or.inr (Or.inl ⟨_, rfl⟩)) rfl rfl rfl rfl rfl rfl O40 rfl Hc rfl ?_
  refine am_ev.step (pc' := 720) rfl rfl ?_
  refine am_ev.step (pc' := 721) rfl rfl ?_
  refine am_ev.step (pc' := 722) rfl rfl ?_
  refine am_ev.step (pc' := 723) rfl rfl ?_
  refine am_ev.step (pc' := 724) rfl rfl ?_
  refine am_ev.step (pc' := 725) rfl rfl ?_
  refine ax_iaload (p' := 726) rfl rfl b1 ?_
  refine am_ev.step (pc' := 727) rfl rfl ?_
  refine am_ev.step (pc' := 728) rfl rfl ?_
  refine am_ev.step (pc' := 729) rfl rfl ?_
  refine am_ev.step (pc' := 730) rfl rfl ?_
  refine ax_iaload (p' := 731) rfl rfl b2 ?_
  refine ax_call (z := 215) (p' := 734) (as := [_, _, _]) rfl (Or.inr (Or.inl ⟨_, rfl⟩)) rfl rfl rfl rfl rfl rfl O78 rfl Hm rfl ?_
  refine am_ev.step (pc' := 735) rfl rfl ?_
  refine am_ev.step (pc' := 1294) rfl rfl ?_
  refine am_ev.step (pc' := 1297) rfl rfl ?_
  refine am_ev.step (pc' := 18) rfl rfl ?_
  exact q
theorem sp_16 {h h1 h2 : am_H} {d : Nat} {i r v1 v2 : Int32} {x : Option Value × am_H} (O40 : am_isO h 40 11 = true) (O78 : am_isO h1 78 13 = true) (Hc : am_ev d 90 0 (am_ent [.ref 40, .int v1, .int v2] (am_in 90).2.2.1) [] h (some (.int r), h1)) (Hm : am_ev d 217 0 (am_ent [.ref 78, .int v1, .int v2] (am_in 217).2.2.1) [] h1 (some (.int r), h2)) (a1 : am_rd h 0 (i + Int32.ofInt 1) (fun c => Nat.beq c 0) = some (.int v1)) (a2 : am_rd h 0 (i + Int32.ofInt 2) (fun c => Nat.beq c 0) = some (.int v2)) (b1 : am_rd h1 0 (i + Int32.ofInt 1) (fun c => Nat.beq c 0) = some (.int v1)) (b2 : am_rd h1 0 (i + Int32.ofInt 2) (fun c => Nat.beq c 0) = some (.int v2)) (q : am_ev (d + 1) 0 18 [.ref 0, .ref 40, .ref 78, .int (i + Int32.ofInt 6)] [] h2 x) : am_ev (d + 1) 0 738 [.ref 0, .ref 40, .ref 78, .int i] [] h x := by
  refine am_ev.step (pc' := 739) rfl rfl ?_
  refine am_ev.step (pc' := 740) rfl rfl ?_
  refine am_ev.step (pc' := 741) rfl rfl ?_
  refine am_ev.step (pc' := 742) rfl rfl ?_
  refine am_ev.step (pc' := 743) rfl rfl ?_
  refine ax_iaload (p' := 744) rfl rfl a1 ?_
  refine am_ev.step (pc' := 745) rfl rfl ?_
  refine am_ev.step (pc' := 746) rfl rfl ?_
  refine am_ev.step (pc' := 747) rfl rfl ?_
  refine am_ev.step (pc' := 748) rfl rfl ?_
  refine ax_iaload (p' := 749) rfl rfl a2 ?_
  refine ax_call (z := 90) (p' := 752) (as := [_, _, _]) rfl (Or.inr (Or.inl ⟨_, rfl⟩)) rfl rfl rfl rfl rfl rfl O40 rfl Hc rfl ?_
  refine am_ev.step (pc' := 753) rfl rfl ?_
  refine am_ev.step (pc' := 754) rfl rfl ?_
  refine am_ev.step (pc' := 755) rfl rfl ?_
  refine am_ev.step (pc' := 756) rfl rfl ?_
  refine am_ev.step (pc' := 757) rfl rfl ?_
  refine am_ev.step (pc' := 758) rfl rfl ?_
  refine ax_iaload (p' := 759) rfl rfl b1 ?_
  refine am_ev.step (pc' := 760) rfl rfl ?_
  refine am_ev.step (pc' := 761) rfl rfl ?_
  refine am_ev.step (pc' := 762) rfl rfl ?_
  refine am_ev.step (pc' := 763) rfl rfl ?_
  refine ax_iaload (p' := 764) rfl rfl b2 ?_
  refine ax_call (z := 217) (p' := 767) (as := [_, _, _]) rfl (Or.inr (Or.inl ⟨_, rfl⟩)) rfl rfl rfl rfl rfl rfl O78 rfl Hm rfl ?_
  refine am_ev.step (pc' := 768) rfl rfl ?_
  refine am_ev.step (pc' := 1294) rfl rfl ?_
  refine am_ev.step (pc' := 1297) rfl rfl ?_
  refine am_ev.step (pc' := 18) rfl rfl ?_
  exact q
theorem sp_19 {h h1 h2 : am_H} {d : Nat} {i r v1 v2 : Int32} {x : Option Value × am_H} (O40 : am_isO h 40 11 = true) (O78 : am_isO h1 78 13 = true) (Hc : am_ev d 99 0 (am_ent [.ref 40, .int v1, .int v2] (am_in 99).2.2.1) [] h (some (.int r), h1)) (Hm : am_ev d 224 0 (am_ent [.ref 78, .int v1, .int v2] (am_in 224).2.2.1) [] h1 (some (.int r), h2)) (a1 : am_rd h 0 (i + Int32.ofInt 1) (fun c => Nat.beq c 0) = some (.int v1)) (a2 : am_rd h 0 (i + Int32.ofInt 2) (fun c => Nat.beq c 0) = some (.int v2)) (b1 : am_rd h1 0 (i + Int32.ofInt 1) (fun c => Nat.beq c 0) = some (.int v1)) (b2 : am_rd h1 0 (i + Int32.ofInt 2) (fun c => Nat.beq c 0) = some (.int v2)) (q : am_ev (d + 1) 0 18 [.ref 0, .ref 40, .ref 78, .int (i + Int32.ofInt 6)] [] h2 x) : am_ev (d + 1) 0 857 [.ref 0, .ref 40, .ref 78, .int i] [] h x := by
  refine am_ev.step (pc' := 858) rfl rfl ?_
  refine am_ev.step (pc' := 859) rfl rfl ?_
  refine am_ev.step (pc' := 860) rfl rfl ?_
  refine am_ev.step (pc' := 861) rfl rfl ?_
  refine am_ev.step (pc' := 862) rfl rfl ?_
  refine ax_iaload (p' := 863) rfl rfl a1 ?_
  refine am_ev.step (pc' := 864) rfl rfl ?_
  refine am_ev.step (pc' := 865) rfl rfl ?_
  refine am_ev.step (pc' := 866) rfl rfl ?_
  refine am_ev.step (pc' := 867) rfl rfl ?_
  refine ax_iaload (p' := 868) rfl rfl a2 ?_
  refine ax_call (z := 99) (p' := 871) (as := [_, _, _]) rfl (Or.inr (Or.inl ⟨_, rfl⟩)) rfl rfl rfl rfl rfl rfl O40 rfl Hc rfl ?_
  refine am_ev.step (pc' := 872) rfl rfl ?_
  refine am_ev.step (pc' := 873) rfl rfl ?_
  refine am_ev.step (pc' := 874) rfl rfl ?_
  refine am_ev.step (pc' := 875) rfl rfl ?_
  refine am_ev.step (pc' := 876) rfl rfl ?_
  refine am_ev.step (pc' := 877) rfl rfl ?_
  refine ax_iaload (p' := 878) rfl rfl b1 ?_
  refine am_ev.step (pc' := 879) rfl rfl ?_
  refine am_ev.step (pc' := 880) rfl rfl ?_
  refine am_ev.step (pc' := 881) rfl rfl ?_
  refine am_ev.step (pc' := 882) rfl rfl ?_
  refine ax_iaload (p' := 883) rfl rfl b2 ?_
  refine ax_call (z := 224) (p' := 886) (as := [_, _, _]) rfl (Or.inr (Or.inl ⟨_, rfl⟩)) rfl rfl rfl rfl rfl rfl O78 rfl Hm rfl ?_
  refine am_ev.step (pc' := 887) rfl rfl ?_
  refine am_ev.step (pc' := 1294) rfl rfl ?_
  refine am_ev.step (pc' := 1297) rfl rfl ?_
  refine am_ev.step (pc' := 18) rfl rfl ?_
  exact q
theorem sp_8 {h h1 h2 : am_H} {d : Nat} {i r v1 : Int32} {x : Option Value × am_H} (O40 : am_isO h 40 11 = true) (O78 : am_isO h1 78 13 = true) (Hc : am_ev d 43 0 (am_ent [.ref 40, .int v1] (am_in 43).2.2.1) [] h (some (.int r), h1)) (Hm : am_ev d 189 0 (am_ent [.ref 78, .int v1] (am_in 189).2.2.1) [] h1 (some (.int r), h2)) (a1 : am_rd h 0 (i + Int32.ofInt 1) (fun c => Nat.beq c 0) = some (.int v1)) (b1 : am_rd h1 0 (i + Int32.ofInt 1) (fun c => Nat.beq c 0) = some (.int v1)) (q : am_ev (d + 1) 0 18 [.ref 0, .ref 40, .ref 78, .int (i + Int32.ofInt 6)] [] h2 x) : am_ev (d + 1) 0 464 [.ref 0, .ref 40, .ref 78, .int i] [] h x := by
  refine am_ev.step (pc' := 465) rfl rfl ?_
  refine am_ev.step (pc' := 466) rfl rfl ?_
  refine am_ev.step (pc' := 467) rfl rfl ?_
  refine am_ev.step (pc' := 468) rfl rfl ?_
  refine am_ev.step (pc' := 469) rfl rfl ?_
  refine ax_iaload (p' := 470) rfl rfl a1 ?_
  refine ax_call (z := 43) (p' := 473) (as := [_, _]) rfl (Or.inr (Or.inl ⟨_, rfl⟩)) rfl rfl rfl rfl rfl rfl O40 rfl Hc rfl ?_
  refine am_ev.step (pc' := 474) rfl rfl ?_
  refine am_ev.step (pc' := 475) rfl rfl ?_
  refine am_ev.step (pc' := 476) rfl rfl ?_
  refine am_ev.step (pc' := 477) rfl rfl ?_
  refine am_ev.step (pc' := 478) rfl rfl ?_
  refine am_ev.step (pc' := 479) rfl rfl ?_
  refine ax_iaload (p' := 480) rfl rfl b1 ?_
  refine ax_call (z := 189) (p' := 483) (as := [_, _]) rfl (Or.inr (Or.inl ⟨_, rfl⟩)) rfl rfl rfl rfl rfl rfl O78 rfl Hm rfl ?_
  refine am_ev.step (pc' := 484) rfl rfl ?_
  refine am_ev.step (pc' := 1294) rfl rfl ?_
  refine am_ev.step (pc' := 1297) rfl rfl ?_
  refine am_ev.step (pc' := 18) rfl rfl ?_
  exact q
theorem sp_25 {h h1 h2 : am_H} {d : Nat} {i r v1 : Int32} {x : Option Value × am_H} (O40 : am_isO h 40 11 = true) (O78 : am_isO h1 78 13 = true) (Hc : am_ev d 118 0 (am_ent [.ref 40, .int v1] (am_in 118).2.2.1) [] h (some (.int r), h1)) (Hm : am_ev d 239 0 (am_ent [.ref 78, .int v1] (am_in 239).2.2.1) [] h1 (some (.int r), h2)) (a1 : am_rd h 0 (i + Int32.ofInt 1) (fun c => Nat.beq c 0) = some (.int v1)) (b1 : am_rd h1 0 (i + Int32.ofInt 1) (fun c => Nat.beq c 0) = some (.int v1)) (q : am_ev (d + 1) 0 18 [.ref 0, .ref 40, .ref 78, .int (i + Int32.ofInt 6)] [] h2 x) : am_ev (d + 1) 0 995 [.ref 0, .ref 40, .ref 78, .int i] [] h x := by
  refine am_ev.step (pc' := 996) rfl rfl ?_
  refine am_ev.step (pc' := 997) rfl rfl ?_
  refine am_ev.step (pc' := 998) rfl rfl ?_
  refine am_ev.step (pc' := 999) rfl rfl ?_
  refine am_ev.step (pc' := 1000) rfl rfl ?_
  refine ax_iaload (p' := 1001) rfl rfl a1 ?_
  refine ax_call (z := 118) (p' := 1004) (as := [_, _]) rfl (Or.inr (Or.inl ⟨_, rfl⟩)) rfl rfl rfl rfl rfl rfl O40 rfl Hc rfl ?_
  refine am_ev.step (pc' := 1005) rfl rfl ?_
  refine am_ev.step (pc' := 1006) rfl rfl ?_
  refine am_ev.step (pc' := 1007) rfl rfl ?_
  refine am_ev.step (pc' := 1008) rfl rfl ?_
  refine am_ev.step (pc' := 1009) rfl rfl ?_
  refine ax_iaload (p' := 1010) rfl rfl b1 ?_
  refine ax_call (z := 239) (p' := 1013) (as := [_, _]) rfl (Or.inr (Or.inl ⟨_, rfl⟩)) rfl rfl rfl rfl rfl rfl O78 rfl Hm rfl ?_
  refine ax_c_eq_T (p' := 1294) rfl rfl rfl ?_
  refine am_ev.step (pc' := 1297) rfl rfl ?_
  refine am_ev.step (pc' := 18) rfl rfl ?_
  exact q
theorem sp_9 {h h1 h2 : am_H} {d : Nat} {i r r2 v1 v2 v3 : Int32} {x : Option Value × am_H} (O40 : am_isO h 40 11 = true) (O78 : am_isO h1 78 13 = true) (Hc : am_ev d 51 0 (am_ent [.ref 40, .int v1, .int v2, .int v3] (am_in 51).2.2.1) [] h (some (.int r), h1)) (Hm : am_ev d 195 0 (am_ent [.ref 78, .int v1, .int v2, .int v3] (am_in 195).2.2.1) [] h1 (some (.int r2), h2)) (a1 : am_rd h 0 (i + Int32.ofInt 1) (fun c => Nat.beq c 0) = some (.int v1)) (a2 : am_rd h 0 (i + Int32.ofInt 2) (fun c => Nat.beq c 0) = some (.int v2)) (a3 : am_rd h 0 (i + Int32.ofInt 3) (fun c => Nat.beq c 0) = some (.int v3)) (b1 : am_rd h1 0 (i + Int32.ofInt 1) (fun c => Nat.beq c 0) = some (.int v1)) (b2 : am_rd h1 0 (i + Int32.ofInt 2) (fun c => Nat.beq c 0) = some (.int v2)) (b3 : am_rd h1 0 (i + Int32.ofInt 3) (fun c => Nat.beq c 0) = some (.int v3)) (q : am_ev (d + 1) 0 18 [.ref 0, .ref 40, .ref 78, .int (i + Int32.ofInt 6)] [] h2 x) : am_ev (d + 1) 0 487 [.ref 0, .ref 40, .ref 78, .int i] [] h x := by
  refine am_ev.step (pc' := 488) rfl rfl ?_
  refine am_ev.step (pc' := 489) rfl rfl ?_
  refine am_ev.step (pc' := 490) rfl rfl ?_
  refine am_ev.step (pc' := 491) rfl rfl ?_
  refine am_ev.step (pc' := 492) rfl rfl ?_
  refine ax_iaload (p' := 493) rfl rfl a1 ?_
  refine am_ev.step (pc' := 494) rfl rfl ?_
  refine am_ev.step (pc' := 495) rfl rfl ?_
  refine am_ev.step (pc' := 496) rfl rfl ?_
  refine am_ev.step (pc' := 497) rfl rfl ?_
  refine ax_iaload (p' := 498) rfl rfl a2 ?_
  refine am_ev.step (pc' := 499) rfl rfl ?_
  refine am_ev.step (pc' := 500) rfl rfl ?_
  refine am_ev.step (pc' := 501) rfl rfl ?_
  refine am_ev.step (pc' := 502) rfl rfl ?_
  refine ax_iaload (p' := 503) rfl rfl a3 ?_
  refine ax_call (z := 51) (p' := 506) (as := [_, _, _, _]) rfl (Or.inr (Or.inl ⟨_, rfl⟩)) rfl rfl rfl rfl rfl rfl O40 rfl Hc rfl ?_
  refine am_ev.step (pc' := 507) rfl rfl ?_
  refine am_ev.step (pc' := 508) rfl rfl ?_
  refine am_ev.step (pc' := 509) rfl rfl ?_
  refine am_ev.step (pc' := 510) rfl rfl ?_
  refine am_ev.step (pc' := 511) rfl rfl ?_
  refine am_ev.step (pc' := 512) rfl rfl ?_
  refine ax_iaload (p' := 513) rfl rfl b1 ?_
  refine am_ev.step (pc' := 514) rfl rfl ?_
  refine am_ev.step (pc' := 515) rfl rfl ?_
  refine am_ev.step (pc' := 516) rfl rfl ?_
  refine am_ev.step (pc' := 517) rfl rfl ?_
  refine ax_iaload (p' := 518) rfl rfl b2 ?_
  refine am_ev.step (pc' := 519) rfl rfl ?_
  refine am_ev.step (pc' := 520) rfl rfl ?_
  refine am_ev.step (pc' := 521) rfl rfl ?_
  refine am_ev.step (pc' := 522) rfl rfl ?_
  refine ax_iaload (p' := 523) rfl rfl b3 ?_
  refine ax_call (z := 195) (p' := 526) (as := [_, _, _, _]) rfl (Or.inr (Or.inl ⟨_, rfl⟩)) rfl rfl rfl rfl rfl rfl O78 rfl Hm rfl ?_
  refine am_ev.step (pc' := 527) rfl rfl ?_
  refine am_ev.step (pc' := 1294) rfl rfl ?_
  refine am_ev.step (pc' := 1297) rfl rfl ?_
  refine am_ev.step (pc' := 18) rfl rfl ?_
  exact q
theorem sp_10 {h h1 h2 : am_H} {d : Nat} {i r r2 v1 v2 v3 : Int32} {x : Option Value × am_H} (O40 : am_isO h 40 11 = true) (O78 : am_isO h1 78 13 = true) (Hc : am_ev d 65 0 (am_ent [.ref 40, .int v1, .int v2, .int v3] (am_in 65).2.2.1) [] h (some (.int r), h1)) (Hm : am_ev d 202 0 (am_ent [.ref 78, .int v1, .int v2, .int v3] (am_in 202).2.2.1) [] h1 (some (.int r2), h2)) (a1 : am_rd h 0 (i + Int32.ofInt 1) (fun c => Nat.beq c 0) = some (.int v1)) (a2 : am_rd h 0 (i + Int32.ofInt 2) (fun c => Nat.beq c 0) = some (.int v2)) (a3 : am_rd h 0 (i + Int32.ofInt 3) (fun c => Nat.beq c 0) = some (.int v3)) (b1 : am_rd h1 0 (i + Int32.ofInt 1) (fun c => Nat.beq c 0) = some (.int v1)) (b2 : am_rd h1 0 (i + Int32.ofInt 2) (fun c => Nat.beq c 0) = some (.int v2)) (b3 : am_rd h1 0 (i + Int32.ofInt 3) (fun c => Nat.beq c 0) = some (.int v3)) (q : am_ev (d + 1) 0 18 [.ref 0, .ref 40, .ref 78, .int (i + Int32.ofInt 6)] [] h2 x) : am_ev (d + 1) 0 530 [.ref 0, .ref 40, .ref 78, .int i] [] h x := by
  refine am_ev.step (pc' := 531) rfl rfl ?_
  refine am_ev.step (pc' := 532) rfl rfl ?_
  refine am_ev.step (pc' := 533) rfl rfl ?_
  refine am_ev.step (pc' := 534) rfl rfl ?_
  refine am_ev.step (pc' := 535) rfl rfl ?_
  refine ax_iaload (p' := 536) rfl rfl a1 ?_
  refine am_ev.step (pc' := 537) rfl rfl ?_
  refine am_ev.step (pc' := 538) rfl rfl ?_
  refine am_ev.step (pc' := 539) rfl rfl ?_
  refine am_ev.step (pc' := 540) rfl rfl ?_
  refine ax_iaload (p' := 541) rfl rfl a2 ?_
  refine am_ev.step (pc' := 542) rfl rfl ?_
  refine am_ev.step (pc' := 543) rfl rfl ?_
  refine am_ev.step (pc' := 544) rfl rfl ?_
  refine am_ev.step (pc' := 545) rfl rfl ?_
  refine ax_iaload (p' := 546) rfl rfl a3 ?_
  refine ax_call (z := 65) (p' := 549) (as := [_, _, _, _]) rfl (Or.inr (Or.inl ⟨_, rfl⟩)) rfl rfl rfl rfl rfl rfl O40 rfl Hc rfl ?_
  refine am_ev.step (pc' := 550) rfl rfl ?_
  refine am_ev.step (pc' := 551) rfl rfl ?_
  refine am_ev.step (pc' := 552) rfl rfl ?_
  refine am_ev.step (pc' := 553) rfl rfl ?_
  refine am_ev.step (pc' := 554) rfl rfl ?_
  refine am_ev.step (pc' := 555) rfl rfl ?_
  refine ax_iaload (p' := 556) rfl rfl b1 ?_
  refine am_ev.step (pc' := 557) rfl rfl ?_
  refine am_ev.step (pc' := 558) rfl rfl ?_
  refine am_ev.step (pc' := 559) rfl rfl ?_
  refine am_ev.step (pc' := 560) rfl rfl ?_
  refine ax_iaload (p' := 561) rfl rfl b2 ?_
  refine am_ev.step (pc' := 562) rfl rfl ?_
  refine am_ev.step (pc' := 563) rfl rfl ?_
  refine am_ev.step (pc' := 564) rfl rfl ?_
  refine am_ev.step (pc' := 565) rfl rfl ?_
  refine ax_iaload (p' := 566) rfl rfl b3 ?_
  refine ax_call (z := 202) (p' := 569) (as := [_, _, _, _]) rfl (Or.inr (Or.inl ⟨_, rfl⟩)) rfl rfl rfl rfl rfl rfl O78 rfl Hm rfl ?_
  refine am_ev.step (pc' := 570) rfl rfl ?_
  refine am_ev.step (pc' := 1294) rfl rfl ?_
  refine am_ev.step (pc' := 1297) rfl rfl ?_
  refine am_ev.step (pc' := 18) rfl rfl ?_
  exact q
theorem sp_11 {h h1 h2 : am_H} {d : Nat} {i r r2 v1 v2 v3 : Int32} {x : Option Value × am_H} (O40 : am_isO h 40 11 = true) (O78 : am_isO h1 78 13 = true) (Hc : am_ev d 67 0 (am_ent [.ref 40, .int v1, .int v2, .int v3] (am_in 67).2.2.1) [] h (some (.int r), h1)) (Hm : am_ev d 204 0 (am_ent [.ref 78, .int v1, .int v2, .int v3] (am_in 204).2.2.1) [] h1 (some (.int r2), h2)) (a1 : am_rd h 0 (i + Int32.ofInt 1) (fun c => Nat.beq c 0) = some (.int v1)) (a2 : am_rd h 0 (i + Int32.ofInt 2) (fun c => Nat.beq c 0) = some (.int v2)) (a3 : am_rd h 0 (i + Int32.ofInt 3) (fun c => Nat.beq c 0) = some (.int v3)) (b1 : am_rd h1 0 (i + Int32.ofInt 1) (fun c => Nat.beq c 0) = some (.int v1)) (b2 : am_rd h1 0 (i + Int32.ofInt 2) (fun c => Nat.beq c 0) = some (.int v2)) (b3 : am_rd h1 0 (i + Int32.ofInt 3) (fun c => Nat.beq c 0) = some (.int v3)) (q : am_ev (d + 1) 0 18 [.ref 0, .ref 40, .ref 78, .int (i + Int32.ofInt 6)] [] h2 x) : am_ev (d + 1) 0 573 [.ref 0, .ref 40, .ref 78, .int i] [] h x := by
  refine am_ev.step (pc' := 574) rfl rfl ?_
  refine am_ev.step (pc' := 575) rfl rfl ?_
  refine am_ev.step (pc' := 576) rfl rfl ?_
  refine am_ev.step (pc' := 577) rfl rfl ?_
  refine am_ev.step (pc' := 578) rfl rfl ?_
  refine ax_iaload (p' := 579) rfl rfl a1 ?_
  refine am_ev.step (pc' := 580) rfl rfl ?_
  refine am_ev.step (pc' := 581) rfl rfl ?_
  refine am_ev.step (pc' := 582) rfl rfl ?_
  refine am_ev.step (pc' := 583) rfl rfl ?_
  refine ax_iaload (p' := 584) rfl rfl a2 ?_
  refine am_ev.step (pc' := 585) rfl rfl ?_
  refine am_ev.step (pc' := 586) rfl rfl ?_
  refine am_ev.step (pc' := 587) rfl rfl ?_
  refine am_ev.step (pc' := 588) rfl rfl ?_
  refine ax_iaload (p' := 589) rfl rfl a3 ?_
  refine ax_call (z := 67) (p' := 592) (as := [_, _, _, _]) rfl (Or.inr (Or.inl ⟨_, rfl⟩)) rfl rfl rfl rfl rfl rfl O40 rfl Hc rfl ?_
  refine am_ev.step (pc' := 593) rfl rfl ?_
  refine am_ev.step (pc' := 594) rfl rfl ?_
  refine am_ev.step (pc' := 595) rfl rfl ?_
  refine am_ev.step (pc' := 596) rfl rfl ?_
  refine am_ev.step (pc' := 597) rfl rfl ?_
  refine am_ev.step (pc' := 598) rfl rfl ?_
  refine ax_iaload (p' := 599) rfl rfl b1 ?_
  refine am_ev.step (pc' := 600) rfl rfl ?_
  refine am_ev.step (pc' := 601) rfl rfl ?_
  refine am_ev.step (pc' := 602) rfl rfl ?_
  refine am_ev.step (pc' := 603) rfl rfl ?_
  refine ax_iaload (p' := 604) rfl rfl b2 ?_
  refine am_ev.step (pc' := 605) rfl rfl ?_
  refine am_ev.step (pc' := 606) rfl rfl ?_
  refine am_ev.step (pc' := 607) rfl rfl ?_
  refine am_ev.step (pc' := 608) rfl rfl ?_
  refine ax_iaload (p' := 609) rfl rfl b3 ?_
  refine ax_call (z := 204) (p' := 612) (as := [_, _, _, _]) rfl (Or.inr (Or.inl ⟨_, rfl⟩)) rfl rfl rfl rfl rfl rfl O78 rfl Hm rfl ?_
  refine am_ev.step (pc' := 613) rfl rfl ?_
  refine am_ev.step (pc' := 1294) rfl rfl ?_
  refine am_ev.step (pc' := 1297) rfl rfl ?_
  refine am_ev.step (pc' := 18) rfl rfl ?_
  exact q
theorem sp_12 {h h1 h2 : am_H} {d : Nat} {i r r2 v1 v2 : Int32} {x : Option Value × am_H} (O40 : am_isO h 40 11 = true) (O78 : am_isO h1 78 13 = true) (Hc : am_ev d 73 0 (am_ent [.ref 40, .int v1, .int v2] (am_in 73).2.2.1) [] h (some (.int r), h1)) (Hm : am_ev d 207 0 (am_ent [.ref 78, .int v1, .int v2] (am_in 207).2.2.1) [] h1 (some (.int r2), h2)) (a1 : am_rd h 0 (i + Int32.ofInt 1) (fun c => Nat.beq c 0) = some (.int v1)) (a2 : am_rd h 0 (i + Int32.ofInt 2) (fun c => Nat.beq c 0) = some (.int v2)) (b1 : am_rd h1 0 (i + Int32.ofInt 1) (fun c => Nat.beq c 0) = some (.int v1)) (b2 : am_rd h1 0 (i + Int32.ofInt 2) (fun c => Nat.beq c 0) = some (.int v2)) (q : am_ev (d + 1) 0 18 [.ref 0, .ref 40, .ref 78, .int (i + Int32.ofInt 6)] [] h2 x) : am_ev (d + 1) 0 616 [.ref 0, .ref 40, .ref 78, .int i] [] h x := by
  refine am_ev.step (pc' := 617) rfl rfl ?_
  refine am_ev.step (pc' := 618) rfl rfl ?_
  refine am_ev.step (pc' := 619) rfl rfl ?_
  refine am_ev.step (pc' := 620) rfl rfl ?_
  refine am_ev.step (pc' := 621) rfl rfl ?_
  refine ax_iaload (p' := 622) rfl rfl a1 ?_
  refine am_ev.step (pc' := 623) rfl rfl ?_
  refine am_ev.step (pc' := 624) rfl rfl ?_
  refine am_ev.step (pc' := 625) rfl rfl ?_
  refine am_ev.step (pc' := 626) rfl rfl ?_
  refine ax_iaload (p' := 627) rfl rfl a2 ?_
  refine ax_call (z := 73) (p' := 630) (as := [_, _, _]) rfl (Or.inr (Or.inl ⟨_, rfl⟩)) rfl rfl rfl rfl rfl rfl O40 rfl Hc rfl ?_
  refine am_ev.step (pc' := 631) rfl rfl ?_
  refine am_ev.step (pc' := 632) rfl rfl ?_
  refine am_ev.step (pc' := 633) rfl rfl ?_
  refine am_ev.step (pc' := 634) rfl rfl ?_
  refine am_ev.step (pc' := 635) rfl rfl ?_
  refine am_ev.step (pc' := 636) rfl rfl ?_
  refine ax_iaload (p' := 637) rfl rfl b1 ?_
  refine am_ev.step (pc' := 638) rfl rfl ?_
  refine am_ev.step (pc' := 639) rfl rfl ?_
  refine am_ev.step (pc' := 640) rfl rfl ?_
  refine am_ev.step (pc' := 641) rfl rfl ?_
  refine ax_iaload (p' := 642) rfl rfl b2 ?_
  refine ax_call (z := 207) (p' := 645) (as := [_, _, _]) rfl (Or.inr (Or.inl ⟨_, rfl⟩)) rfl rfl rfl rfl rfl rfl O78 rfl Hm rfl ?_
  refine am_ev.step (pc' := 646) rfl rfl ?_
  refine am_ev.step (pc' := 1294) rfl rfl ?_
  refine am_ev.step (pc' := 1297) rfl rfl ?_
  refine am_ev.step (pc' := 18) rfl rfl ?_
  exact q
theorem sp_21 {h h1 h2 : am_H} {d : Nat} {i r r2 v1 v2 : Int32} {x : Option Value × am_H} (O40 : am_isO h 40 11 = true) (O78 : am_isO h1 78 13 = true) (Hc : am_ev d 103 0 (am_ent [.ref 40, .int v1, .int v2] (am_in 103).2.2.1) [] h (some (.int r), h1)) (Hm : am_ev d 226 0 (am_ent [.ref 78, .int v1, .int v2] (am_in 226).2.2.1) [] h1 (some (.int r2), h2)) (a1 : am_rd h 0 (i + Int32.ofInt 1) (fun c => Nat.beq c 0) = some (.int v1)) (a2 : am_rd h 0 (i + Int32.ofInt 2) (fun c => Nat.beq c 0) = some (.int v2)) (b1 : am_rd h1 0 (i + Int32.ofInt 1) (fun c => Nat.beq c 0) = some (.int v1)) (b2 : am_rd h1 0 (i + Int32.ofInt 2) (fun c => Nat.beq c 0) = some (.int v2)) (q : am_ev (d + 1) 0 18 [.ref 0, .ref 40, .ref 78, .int (i + Int32.ofInt 6)] [] h2 x) : am_ev (d + 1) 0 913 [.ref 0, .ref 40, .ref 78, .int i] [] h x := by
  refine am_ev.step (pc' := 914) rfl rfl ?_
  refine am_ev.step (pc' := 915) rfl rfl ?_
  refine am_ev.step (pc' := 916) rfl rfl ?_
  refine am_ev.step (pc' := 917) rfl rfl ?_
  refine am_ev.step (pc' := 918) rfl rfl ?_
  refine ax_iaload (p' := 919) rfl rfl a1 ?_
  refine am_ev.step (pc' := 920) rfl rfl ?_
  refine am_ev.step (pc' := 921) rfl rfl ?_
  refine am_ev.step (pc' := 922) rfl rfl ?_
  refine am_ev.step (pc' := 923) rfl rfl ?_
  refine ax_iaload (p' := 924) rfl rfl a2 ?_
  refine ax_call (z := 103) (p' := 927) (as := [_, _, _]) rfl (Or.inr (Or.inl ⟨_, rfl⟩)) rfl rfl rfl rfl rfl rfl O40 rfl Hc rfl ?_
  refine am_ev.step (pc' := 928) rfl rfl ?_
  refine am_ev.step (pc' := 929) rfl rfl ?_
  refine am_ev.step (pc' := 930) rfl rfl ?_
  refine am_ev.step (pc' := 931) rfl rfl ?_
  refine am_ev.step (pc' := 932) rfl rfl ?_
  refine am_ev.step (pc' := 933) rfl rfl ?_
  refine ax_iaload (p' := 934) rfl rfl b1 ?_
  refine am_ev.step (pc' := 935) rfl rfl ?_
  refine am_ev.step (pc' := 936) rfl rfl ?_
  refine am_ev.step (pc' := 937) rfl rfl ?_
  refine am_ev.step (pc' := 938) rfl rfl ?_
  refine ax_iaload (p' := 939) rfl rfl b2 ?_
  refine ax_call (z := 226) (p' := 942) (as := [_, _, _]) rfl (Or.inr (Or.inl ⟨_, rfl⟩)) rfl rfl rfl rfl rfl rfl O78 rfl Hm rfl ?_
  refine am_ev.step (pc' := 943) rfl rfl ?_
  refine am_ev.step (pc' := 1294) rfl rfl ?_
  refine am_ev.step (pc' := 1297) rfl rfl ?_
  refine am_ev.step (pc' := 18) rfl rfl ?_
  exact q
theorem sp_22 {h h1 h2 : am_H} {d : Nat} {i r r2  : Int32} {x : Option Value × am_H} (O40 : am_isO h 40 11 = true) (O78 : am_isO h1 78 13 = true) (Hc : am_ev d 106 0 (am_ent [.ref 40] (am_in 106).2.2.1) [] h (some (.int r), h1)) (Hm : am_ev d 234 0 (am_ent [.ref 78] (am_in 234).2.2.1) [] h1 (some (.int r2), h2))   (q : am_ev (d + 1) 0 18 [.ref 0, .ref 40, .ref 78, .int (i + Int32.ofInt 6)] [] h2 x) : am_ev (d + 1) 0 946 [.ref 0, .ref 40, .ref 78, .int i] [] h x := by
  refine am_ev.step (pc' := 947) rfl rfl ?_
  refine ax_call (z := 106) (p' := 950) (as := [_]) rfl (Or.inr (Or.inl ⟨_, rfl⟩)) rfl rfl rfl rfl rfl rfl O40 rfl Hc rfl ?_
  refine am_ev.step (pc' := 951) rfl rfl ?_
  refine am_ev.step (pc' := 952) rfl rfl ?_
  refine ax_call (z := 234) (p' := 955) (as := [_]) rfl (Or.inr (Or.inl ⟨_, rfl⟩)) rfl rfl rfl rfl rfl rfl O78 rfl Hm rfl ?_
  refine am_ev.step (pc' := 956) rfl rfl ?_
  refine am_ev.step (pc' := 1294) rfl rfl ?_
  refine am_ev.step (pc' := 1297) rfl rfl ?_
  refine am_ev.step (pc' := 18) rfl rfl ?_
  exact q
theorem sp_24 {h h1 h2 : am_H} {d : Nat} {i r r2 v1 : Int32} {x : Option Value × am_H} (O40 : am_isO h 40 11 = true) (O78 : am_isO h1 78 13 = true) (Hc : am_ev d 115 0 (am_ent [.ref 40, .int v1] (am_in 115).2.2.1) [] h (some (.int r), h1)) (Hm : am_ev d 238 0 (am_ent [.ref 78, .int v1] (am_in 238).2.2.1) [] h1 (some (.int r2), h2)) (a1 : am_rd h 0 (i + Int32.ofInt 1) (fun c => Nat.beq c 0) = some (.int v1)) (b1 : am_rd h1 0 (i + Int32.ofInt 1) (fun c => Nat.beq c 0) = some (.int v1)) (q : am_ev (d + 1) 0 18 [.ref 0, .ref 40, .ref 78, .int (i + Int32.ofInt 6)] [] h2 x) : am_ev (d + 1) 0 972 [.ref 0, .ref 40, .ref 78, .int i] [] h x := by
  refine am_ev.step (pc' := 973) rfl rfl ?_
  refine am_ev.step (pc' := 974) rfl rfl ?_
  refine am_ev.step (pc' := 975) rfl rfl ?_
  refine am_ev.step (pc' := 976) rfl rfl ?_
  refine am_ev.step (pc' := 977) rfl rfl ?_
  refine ax_iaload (p' := 978) rfl rfl a1 ?_
  refine ax_call (z := 115) (p' := 981) (as := [_, _]) rfl (Or.inr (Or.inl ⟨_, rfl⟩)) rfl rfl rfl rfl rfl rfl O40 rfl Hc rfl ?_
  refine am_ev.step (pc' := 982) rfl rfl ?_
  refine am_ev.step (pc' := 983) rfl rfl ?_
  refine am_ev.step (pc' := 984) rfl rfl ?_
  refine am_ev.step (pc' := 985) rfl rfl ?_
  refine am_ev.step (pc' := 986) rfl rfl ?_
  refine am_ev.step (pc' := 987) rfl rfl ?_
  refine ax_iaload (p' := 988) rfl rfl b1 ?_
  refine ax_call (z := 238) (p' := 991) (as := [_, _]) rfl (Or.inr (Or.inl ⟨_, rfl⟩)) rfl rfl rfl rfl rfl rfl O78 rfl Hm rfl ?_
  refine am_ev.step (pc' := 992) rfl rfl ?_
  refine am_ev.step (pc' := 1294) rfl rfl ?_
  refine am_ev.step (pc' := 1297) rfl rfl ?_
  refine am_ev.step (pc' := 18) rfl rfl ?_
  exact q
theorem sp_26 {h h1 h2 : am_H} {d : Nat} {i r r2  : Int32} {x : Option Value × am_H} (O40 : am_isO h 40 11 = true) (O78 : am_isO h1 78 13 = true) (Hc : am_ev d 128 0 (am_ent [.ref 40] (am_in 128).2.2.1) [] h (some (.int r), h1)) (Hm : am_ev d 247 0 (am_ent [.ref 78] (am_in 247).2.2.1) [] h1 (some (.int r2), h2))   (q : am_ev (d + 1) 0 18 [.ref 0, .ref 40, .ref 78, .int (i + Int32.ofInt 6)] [] h2 x) : am_ev (d + 1) 0 1018 [.ref 0, .ref 40, .ref 78, .int i] [] h x := by
  refine am_ev.step (pc' := 1019) rfl rfl ?_
  refine ax_call (z := 128) (p' := 1022) (as := [_]) rfl (Or.inr (Or.inl ⟨_, rfl⟩)) rfl rfl rfl rfl rfl rfl O40 rfl Hc rfl ?_
  refine am_ev.step (pc' := 1023) rfl rfl ?_
  refine am_ev.step (pc' := 1024) rfl rfl ?_
  refine ax_call (z := 247) (p' := 1027) (as := [_]) rfl (Or.inr (Or.inl ⟨_, rfl⟩)) rfl rfl rfl rfl rfl rfl O78 rfl Hm rfl ?_
  refine am_ev.step (pc' := 1028) rfl rfl ?_
  refine am_ev.step (pc' := 1294) rfl rfl ?_
  refine am_ev.step (pc' := 1297) rfl rfl ?_
  refine am_ev.step (pc' := 18) rfl rfl ?_
  exact q
theorem sp_27 {h h1 h2 : am_H} {d : Nat} {i r r2 v1 v2 : Int32} {x : Option Value × am_H} (O40 : am_isO h 40 11 = true) (O78 : am_isO h1 78 13 = true) (Hc : am_ev d 132 0 (am_ent [.ref 40, .int v1, .int v2] (am_in 132).2.2.1) [] h (some (.int r), h1)) (Hm : am_ev d 248 0 (am_ent [.ref 78, .int v1, .int v2] (am_in 248).2.2.1) [] h1 (some (.int r2), h2)) (a1 : am_rd h 0 (i + Int32.ofInt 1) (fun c => Nat.beq c 0) = some (.int v1)) (a2 : am_rd h 0 (i + Int32.ofInt 2) (fun c => Nat.beq c 0) = some (.int v2)) (b1 : am_rd h1 0 (i + Int32.ofInt 1) (fun c => Nat.beq c 0) = some (.int v1)) (b2 : am_rd h1 0 (i + Int32.ofInt 2) (fun c => Nat.beq c 0) = some (.int v2)) (q : am_ev (d + 1) 0 18 [.ref 0, .ref 40, .ref 78, .int (i + Int32.ofInt 6)] [] h2 x) : am_ev (d + 1) 0 1031 [.ref 0, .ref 40, .ref 78, .int i] [] h x := by
  refine am_ev.step (pc' := 1032) rfl rfl ?_
  refine am_ev.step (pc' := 1033) rfl rfl ?_
  refine am_ev.step (pc' := 1034) rfl rfl ?_
  refine am_ev.step (pc' := 1035) rfl rfl ?_
  refine am_ev.step (pc' := 1036) rfl rfl ?_
  refine ax_iaload (p' := 1037) rfl rfl a1 ?_
  refine am_ev.step (pc' := 1038) rfl rfl ?_
  refine am_ev.step (pc' := 1039) rfl rfl ?_
  refine am_ev.step (pc' := 1040) rfl rfl ?_
  refine am_ev.step (pc' := 1041) rfl rfl ?_
  refine ax_iaload (p' := 1042) rfl rfl a2 ?_
  refine ax_call (z := 132) (p' := 1045) (as := [_, _, _]) rfl (Or.inr (Or.inl ⟨_, rfl⟩)) rfl rfl rfl rfl rfl rfl O40 rfl Hc rfl ?_
  refine am_ev.step (pc' := 1046) rfl rfl ?_
  refine am_ev.step (pc' := 1047) rfl rfl ?_
  refine am_ev.step (pc' := 1048) rfl rfl ?_
  refine am_ev.step (pc' := 1049) rfl rfl ?_
  refine am_ev.step (pc' := 1050) rfl rfl ?_
  refine am_ev.step (pc' := 1051) rfl rfl ?_
  refine ax_iaload (p' := 1052) rfl rfl b1 ?_
  refine am_ev.step (pc' := 1053) rfl rfl ?_
  refine am_ev.step (pc' := 1054) rfl rfl ?_
  refine am_ev.step (pc' := 1055) rfl rfl ?_
  refine am_ev.step (pc' := 1056) rfl rfl ?_
  refine ax_iaload (p' := 1057) rfl rfl b2 ?_
  refine ax_call (z := 248) (p' := 1060) (as := [_, _, _]) rfl (Or.inr (Or.inl ⟨_, rfl⟩)) rfl rfl rfl rfl rfl rfl O78 rfl Hm rfl ?_
  refine am_ev.step (pc' := 1061) rfl rfl ?_
  refine am_ev.step (pc' := 1294) rfl rfl ?_
  refine am_ev.step (pc' := 1297) rfl rfl ?_
  refine am_ev.step (pc' := 18) rfl rfl ?_
  exact q
theorem sp_28 {h h1 h2 : am_H} {d : Nat} {i r r2 v1 : Int32} {x : Option Value × am_H} (O40 : am_isO h 40 11 = true) (O78 : am_isO h1 78 13 = true) (Hc : am_ev d 135 0 (am_ent [.ref 40, .int v1] (am_in 135).2.2.1) [] h (some (.int r), h1)) (Hm : am_ev d 250 0 (am_ent [.ref 78, .int v1] (am_in 250).2.2.1) [] h1 (some (.int r2), h2)) (a1 : am_rd h 0 (i + Int32.ofInt 1) (fun c => Nat.beq c 0) = some (.int v1)) (b1 : am_rd h1 0 (i + Int32.ofInt 1) (fun c => Nat.beq c 0) = some (.int v1)) (q : am_ev (d + 1) 0 18 [.ref 0, .ref 40, .ref 78, .int (i + Int32.ofInt 6)] [] h2 x) : am_ev (d + 1) 0 1064 [.ref 0, .ref 40, .ref 78, .int i] [] h x := by
  refine am_ev.step (pc' := 1065) rfl rfl ?_
  refine am_ev.step (pc' := 1066) rfl rfl ?_
  refine am_ev.step (pc' := 1067) rfl rfl ?_
  refine am_ev.step (pc' := 1068) rfl rfl ?_
  refine am_ev.step (pc' := 1069) rfl rfl ?_
  refine ax_iaload (p' := 1070) rfl rfl a1 ?_
  refine ax_call (z := 135) (p' := 1073) (as := [_, _]) rfl (Or.inr (Or.inl ⟨_, rfl⟩)) rfl rfl rfl rfl rfl rfl O40 rfl Hc rfl ?_
  refine am_ev.step (pc' := 1074) rfl rfl ?_
  refine am_ev.step (pc' := 1075) rfl rfl ?_
  refine am_ev.step (pc' := 1076) rfl rfl ?_
  refine am_ev.step (pc' := 1077) rfl rfl ?_
  refine am_ev.step (pc' := 1078) rfl rfl ?_
  refine am_ev.step (pc' := 1079) rfl rfl ?_
  refine ax_iaload (p' := 1080) rfl rfl b1 ?_
  refine ax_call (z := 250) (p' := 1083) (as := [_, _]) rfl (Or.inr (Or.inl ⟨_, rfl⟩)) rfl rfl rfl rfl rfl rfl O78 rfl Hm rfl ?_
  refine am_ev.step (pc' := 1084) rfl rfl ?_
  refine am_ev.step (pc' := 1294) rfl rfl ?_
  refine am_ev.step (pc' := 1297) rfl rfl ?_
  refine am_ev.step (pc' := 18) rfl rfl ?_
  exact q
theorem sp_29 {h h1 h2 : am_H} {d : Nat} {i r r2 v1 : Int32} {x : Option Value × am_H} (O40 : am_isO h 40 11 = true) (O78 : am_isO h1 78 13 = true) (Hc : am_ev d 136 0 (am_ent [.ref 40, .int v1] (am_in 136).2.2.1) [] h (some (.int r), h1)) (Hm : am_ev d 251 0 (am_ent [.ref 78, .int v1] (am_in 251).2.2.1) [] h1 (some (.int r2), h2)) (a1 : am_rd h 0 (i + Int32.ofInt 1) (fun c => Nat.beq c 0) = some (.int v1)) (b1 : am_rd h1 0 (i + Int32.ofInt 1) (fun c => Nat.beq c 0) = some (.int v1)) (q : am_ev (d + 1) 0 18 [.ref 0, .ref 40, .ref 78, .int (i + Int32.ofInt 6)] [] h2 x) : am_ev (d + 1) 0 1087 [.ref 0, .ref 40, .ref 78, .int i] [] h x := by
  refine am_ev.step (pc' := 1088) rfl rfl ?_
  refine am_ev.step (pc' := 1089) rfl rfl ?_
  refine am_ev.step (pc' := 1090) rfl rfl ?_
  refine am_ev.step (pc' := 1091) rfl rfl ?_
  refine am_ev.step (pc' := 1092) rfl rfl ?_
  refine ax_iaload (p' := 1093) rfl rfl a1 ?_
  refine ax_call (z := 136) (p' := 1096) (as := [_, _]) rfl (Or.inr (Or.inl ⟨_, rfl⟩)) rfl rfl rfl rfl rfl rfl O40 rfl Hc rfl ?_
  refine am_ev.step (pc' := 1097) rfl rfl ?_
  refine am_ev.step (pc' := 1098) rfl rfl ?_
  refine am_ev.step (pc' := 1099) rfl rfl ?_
  refine am_ev.step (pc' := 1100) rfl rfl ?_
  refine am_ev.step (pc' := 1101) rfl rfl ?_
  refine am_ev.step (pc' := 1102) rfl rfl ?_
  refine ax_iaload (p' := 1103) rfl rfl b1 ?_
  refine ax_call (z := 251) (p' := 1106) (as := [_, _]) rfl (Or.inr (Or.inl ⟨_, rfl⟩)) rfl rfl rfl rfl rfl rfl O78 rfl Hm rfl ?_
  refine am_ev.step (pc' := 1107) rfl rfl ?_
  refine am_ev.step (pc' := 1294) rfl rfl ?_
  refine am_ev.step (pc' := 1297) rfl rfl ?_
  refine am_ev.step (pc' := 18) rfl rfl ?_
  exact q
theorem sp_30 {h h1 h2 : am_H} {d : Nat} {i r r2 v1 : Int32} {x : Option Value × am_H} (O40 : am_isO h 40 11 = true) (O78 : am_isO h1 78 13 = true) (Hc : am_ev d 142 0 (am_ent [.ref 40, .int v1] (am_in 142).2.2.1) [] h (some (.int r), h1)) (Hm : am_ev d 253 0 (am_ent [.ref 78, .int v1] (am_in 253).2.2.1) [] h1 (some (.int r2), h2)) (a1 : am_rd h 0 (i + Int32.ofInt 1) (fun c => Nat.beq c 0) = some (.int v1)) (b1 : am_rd h1 0 (i + Int32.ofInt 1) (fun c => Nat.beq c 0) = some (.int v1)) (q : am_ev (d + 1) 0 18 [.ref 0, .ref 40, .ref 78, .int (i + Int32.ofInt 6)] [] h2 x) : am_ev (d + 1) 0 1110 [.ref 0, .ref 40, .ref 78, .int i] [] h x := by
  refine am_ev.step (pc' := 1111) rfl rfl ?_
  refine am_ev.step (pc' := 1112) rfl rfl ?_
  refine am_ev.step (pc' := 1113) rfl rfl ?_
  refine am_ev.step (pc' := 1114) rfl rfl ?_
  refine am_ev.step (pc' := 1115) rfl rfl ?_
  refine ax_iaload (p' := 1116) rfl rfl a1 ?_
  refine ax_call (z := 142) (p' := 1119) (as := [_, _]) rfl (Or.inr (Or.inl ⟨_, rfl⟩)) rfl rfl rfl rfl rfl rfl O40 rfl Hc rfl ?_
  refine am_ev.step (pc' := 1120) rfl rfl ?_
  refine am_ev.step (pc' := 1121) rfl rfl ?_
  refine am_ev.step (pc' := 1122) rfl rfl ?_
  refine am_ev.step (pc' := 1123) rfl rfl ?_
  refine am_ev.step (pc' := 1124) rfl rfl ?_
  refine am_ev.step (pc' := 1125) rfl rfl ?_
  refine ax_iaload (p' := 1126) rfl rfl b1 ?_
  refine ax_call (z := 253) (p' := 1129) (as := [_, _]) rfl (Or.inr (Or.inl ⟨_, rfl⟩)) rfl rfl rfl rfl rfl rfl O78 rfl Hm rfl ?_
  refine am_ev.step (pc' := 1130) rfl rfl ?_
  refine am_ev.step (pc' := 1294) rfl rfl ?_
  refine am_ev.step (pc' := 1297) rfl rfl ?_
  refine am_ev.step (pc' := 18) rfl rfl ?_
  exact q
theorem sp_32 {h h1 h2 : am_H} {d : Nat} {i r r2 v1 : Int32} {x : Option Value × am_H} (O40 : am_isO h 40 11 = true) (O78 : am_isO h1 78 13 = true) (Hc : am_ev d 151 0 (am_ent [.ref 40, .int v1] (am_in 151).2.2.1) [] h (some (.int r), h1)) (Hm : am_ev d 258 0 (am_ent [.ref 78, .int v1] (am_in 258).2.2.1) [] h1 (some (.int r2), h2)) (a1 : am_rd h 0 (i + Int32.ofInt 1) (fun c => Nat.beq c 0) = some (.int v1)) (b1 : am_rd h1 0 (i + Int32.ofInt 1) (fun c => Nat.beq c 0) = some (.int v1)) (q : am_ev (d + 1) 0 18 [.ref 0, .ref 40, .ref 78, .int (i + Int32.ofInt 6)] [] h2 x) : am_ev (d + 1) 0 1156 [.ref 0, .ref 40, .ref 78, .int i] [] h x := by
  refine am_ev.step (pc' := 1157) rfl rfl ?_
  refine am_ev.step (pc' := 1158) rfl rfl ?_
  refine am_ev.step (pc' := 1159) rfl rfl ?_
  refine am_ev.step (pc' := 1160) rfl rfl ?_
  refine am_ev.step (pc' := 1161) rfl rfl ?_
  refine ax_iaload (p' := 1162) rfl rfl a1 ?_
  refine ax_call (z := 151) (p' := 1165) (as := [_, _]) rfl (Or.inr (Or.inl ⟨_, rfl⟩)) rfl rfl rfl rfl rfl rfl O40 rfl Hc rfl ?_
  refine am_ev.step (pc' := 1166) rfl rfl ?_
  refine am_ev.step (pc' := 1167) rfl rfl ?_
  refine am_ev.step (pc' := 1168) rfl rfl ?_
  refine am_ev.step (pc' := 1169) rfl rfl ?_
  refine am_ev.step (pc' := 1170) rfl rfl ?_
  refine am_ev.step (pc' := 1171) rfl rfl ?_
  refine ax_iaload (p' := 1172) rfl rfl b1 ?_
  refine ax_call (z := 258) (p' := 1175) (as := [_, _]) rfl (Or.inr (Or.inl ⟨_, rfl⟩)) rfl rfl rfl rfl rfl rfl O78 rfl Hm rfl ?_
  refine am_ev.step (pc' := 1176) rfl rfl ?_
  refine am_ev.step (pc' := 1294) rfl rfl ?_
  refine am_ev.step (pc' := 1297) rfl rfl ?_
  refine am_ev.step (pc' := 18) rfl rfl ?_
  exact q
theorem lw_loop {L : Nat} (hL : L ≤ 3072) : ∀ (k : Nat) (i : Int32) (h : am_H) (d : Nat), 100 ≤ d → cq_Inv none h → (h.2.2.1 0).2.2 = L → 0 ≤ i.toInt → i.toInt ≤ 3078 → 3078 - i.toInt < k → (∀ q ∈ lw_ps, lw_T h q) → rT h → rp_P h → rp_C h → rL h → rbV h → rD h → rB h → rQ h → rY h → rG h → (h.1 : Int) ≤ 130 + 2 * i.toInt → (h.2.1 : Int) ≤ 67768 + 104 * i.toInt → ∃ x, am_ev d 0 18 [.ref 0, .ref 40, .ref 78, .int i] [] h x ∧ lw_Fn x
  | 0, _, _, _, _, _, _, _, _, hk, _, _, _, _, _, _, _, _, _, _, _, _, _ => by omega
  | k + 1, i, h, d, hd, I, hl, i0, i1, hk, TT, X0_, X1_, X2_, X3_, X4_, X5_, X6_, X7_, X8_, X9_, n1, n2 => by
    have ln : am_len h 0 = some L := by
      unfold am_len
      rw [show Nat.blt 0 h.1 = true from Nat.ble_eq_true_of_le (Nat.le_trans (by decide) I.lo), I.sc.1, hl]
      rfl
    have eL : (Int32.ofNat L).toInt = (L : Int) := Int32.toInt_ofNat_of_lt (by omega)
    have e6 : (Int32.ofNat L - 6).toInt = (L : Int) - 6 := by
      rw [Int32.toInt_sub, eL, show (6 : Int32).toInt = 6 by decide, Int.bmod_eq_of_le (by omega) (by omega)]
    have T : ∀ x, am_ev d 0 24 [.ref 0, .ref 40, .ref 78, .int i] [.int (Int32.ofNat L - 6), .int i] h x → am_ev d 0 18 [.ref 0, .ref 40, .ref 78, .int i] [] h x := fun x q =>
      am_ev.step rfl rfl (am_ev.step rfl rfl (am_ev.step (pc' := 21) (ls' := [.ref 0, .ref 40, .ref 78, .int i]) (st' := [.int (Int32.ofNat L), .int i]) (h' := h) rfl (by dsimp only [am_st]; rw [ln]; rfl) (am_ev.step rfl rfl (am_ev.step rfl rfl q))))
    by_cases c : Int32.ofNat L - 6 < i
    · refine ⟨(some (.int 1), h), T _ ?_, rfl, by show h.1 ≤ _; omega, by show h.2.1 ≤ _; omega⟩
      refine am_ev.step (pc' := 1300) (ls' := [.ref 0, .ref 40, .ref 78, .int i]) (st' := []) (h' := h) rfl (if_pos c) ?_
      refine am_ev.step rfl rfl ?_
      exact am_ev.reti rfl rfl rfl
    · have c6 : i.toInt + 6 ≤ L := by
        have := mt Int32.lt_iff_toInt_lt.2 c
        omega
      have E : ∀ x, am_ev d 0 27 [.ref 0, .ref 40, .ref 78, .int i] [] h x → am_ev d 0 18 [.ref 0, .ref 40, .ref 78, .int i] [] h x := fun x q => T x (am_ev.step (pc' := 27) (ls' := [.ref 0, .ref 40, .ref 78, .int i]) (st' := []) (h' := h) rfl (if_neg c) q)
      have sv : ∀ k : Nat, k < 6 → ∃ v : Int32, h.2.2.2 0 (i.toInt.toNat + k) = .int v := fun k hk => I.sc.2.2.2 (i.toInt.toNat + k) (by rw [hl]; omega)
      obtain ⟨v1, hv1⟩ := sv 1 (by decide)
      obtain ⟨v2, hv2⟩ := sv 2 (by decide)
      obtain ⟨v3, hv3⟩ := sv 3 (by decide)
      obtain ⟨v4, hv4⟩ := sv 4 (by decide)
      obtain ⟨v5, hv5⟩ := sv 5 (by decide)
      obtain ⟨t', t1, t2⟩ := TT (41, 1, 78, 2) (by decide)
      obtain ⟨c', c1, c2⟩ := TT (40, 9, 78, 15) (by decide)
      obtain ⟨p', p1, p2⟩ := TT (40, 8, 78, 16) (by decide)
      obtain ⟨d', d1, d2⟩ := TT (48, 5, 78, 36) (by decide)
      dsimp only at t1 t2 c1 c2 p1 p2 d1 d2
      have bt := lw_tie_in (lo := 0) (hi := 1600) t2 (cq_i78 I (b := 2) 0 1600 (by decide +kernel) (by decide +kernel))
      have bc := lw_tie_in (lo := 0) (hi := 29999) c2 (cq_i78 I (b := 15) 0 29999 (by decide +kernel) (by decide +kernel))
      have bp := lw_tie_in (lo := 0) (hi := 40) p2 (cq_i78 I (b := 16) 0 40 (by decide +kernel) (by decide +kernel))
      have bd := lw_tie_in (lo := 0) (hi := 60) d2 (cq_i78 I (b := 36) 0 60 (by decide +kernel) (by decide +kernel))
      let ρ : Nat → Int := fun s => match s with
        | 0 => i.toInt
        | 1 => t'.toInt
        | 2 => (L : Int)
        | 3 => v1.toInt
        | 4 => v2.toInt
        | 5 => v3.toInt
        | 6 => v4.toInt
        | 7 => v5.toInt
        | 8 => c'.toInt
        | 9 => p'.toInt
        | _ => d'.toInt
      have M0 : ∀ ρ', cq_ag 11 ρ' ρ → cq_Md lw_m h ρ' lw_S h := fun ρ' a => by
        have a0 : ρ' 0 = i.toInt := a 0 (by decide)
        have a1 : ρ' 1 = t'.toInt := a 1 (by decide)
        have a2 : ρ' 2 = (L : Int) := a 2 (by decide)
        have a3 : ρ' 3 = v1.toInt := a 3 (by decide)
        have a4 : ρ' 4 = v2.toInt := a 4 (by decide)
        have a5 : ρ' 5 = v3.toInt := a 5 (by decide)
        have a6 : ρ' 6 = v4.toInt := a 6 (by decide)
        have a7 : ρ' 7 = v5.toInt := a 7 (by decide)
        have a8 : ρ' 8 = c'.toInt := a 8 (by decide)
        have a9 : ρ' 9 = p'.toInt := a 9 (by decide)
        have a10 : ρ' 10 = d'.toInt := a 10 (by decide)
        have full : ∀ (s : Nat) (v : Int32), ρ' s = v.toInt → -2147483648 ≤ ρ' s ∧ ρ' s ≤ 2147483647 := fun s v e => by
          have r1 := v.le_toInt
          have r2 := v.toInt_lt
          omega
        have tp : ∀ (c j s : Nat) (v : Int32), h.2.2.2 c j = .int v → ρ' s = v.toInt → ∃ x : Int32, h.2.2.2 c j = .int x ∧ x.toInt = cq_e ρ' ((0, [(s, 1)]) : cq_F) := fun c j s v e es => ⟨v, e, by rw [show ((0, [(s, 1)]) : cq_F) = cq_s s from rfl, cq_s_e, es]⟩
        have scp : ∀ (k s : Nat) (v : Int32), h.2.2.2 0 (i.toInt.toNat + k) = .int v → ρ' s = v.toInt → ∃ x : Int32, h.2.2.2 0 (cq_e ρ' (((k : Int), [(0, 1)]) : cq_F)).toNat = .int x ∧ x.toInt = cq_e ρ' ((0, [(s, 1)]) : cq_F) := fun k s v e es => by
          have : (cq_e ρ' (((k : Int), [(0, 1)]) : cq_F)).toNat = i.toInt.toNat + k := by
            simp only [cq_e, cq_eT]
            omega
          rw [this]
          exact tp 0 _ s v e es
        refine ⟨⟨fun b hb => ?_, fun g hg => ?_⟩, fun _ z => (by cases z), fun _ z => (by cases z), fun _ z => (by cases z), fun e he => ?_, fun e he => ?_, fun _ z => (by cases z), I, ⟨Nat.le_refl _, fun _ _ => rfl, fun _ _ _ _ => rfl⟩, ⟨Nat.le_refl _, Nat.le_refl _⟩, fun _ z => (by cases z)⟩
        · simp only [lw_S, cq_mk, cq_S.P, List.mem_cons, List.not_mem_nil, or_false] at hb
          rcases hb with rfl | rfl | rfl | rfl | rfl | rfl | rfl | rfl | rfl | rfl | rfl
          · show 0 ≤ ρ' 0 ∧ ρ' 0 ≤ 3078
            omega
          · show 0 ≤ ρ' 1 ∧ ρ' 1 ≤ 1600
            omega
          · show 0 ≤ ρ' 2 ∧ ρ' 2 ≤ 3072
            omega
          · exact full 3 v1 a3
          · exact full 4 v2 a4
          · exact full 5 v3 a5
          · exact full 6 v4 a6
          · exact full 7 v5 a7
          · show 0 ≤ ρ' 8 ∧ ρ' 8 ≤ 29999
            omega
          · show 0 ≤ ρ' 9 ∧ ρ' 9 ≤ 40
            omega
          · show 0 ≤ ρ' 10 ∧ ρ' 10 ≤ 60
            omega
        · have hg : g = ((-6), [(0, (-1)), (2, 1)]) := List.mem_singleton.1 hg
          rw [hg]
          simp only [cq_e, cq_eT]
          omega
        · simp only [lw_S, cq_mk, cq_S.T, List.mem_cons, List.not_mem_nil, or_false] at he
          rcases he with rfl | rfl | rfl | rfl | rfl | rfl | rfl | rfl | rfl | rfl | rfl | rfl | rfl
          · exact tp 41 1 1 t' t1 a1
          · exact tp 78 2 1 t' t2 a1
          · exact tp 40 9 8 c' c1 a8
          · exact tp 78 15 8 c' c2 a8
          · exact tp 40 8 9 p' p1 a9
          · exact tp 78 16 9 p' p2 a9
          · exact tp 48 5 10 d' d1 a10
          · exact tp 78 36 10 d' d2 a10
          · exact scp 1 3 v1 hv1 a3
          · exact scp 2 4 v2 hv2 a4
          · exact scp 3 5 v3 hv3 a5
          · exact scp 4 6 v4 hv4 a6
          · exact scp 5 7 v5 hv5 a7
        · have he : e = ((false, 0), (0, [(2, 1)])) := List.mem_singleton.1 he
          rw [he]
          show cq_e ρ' (cq_s 2) = (cq_len h 0 : Int)
          rw [cq_s_e, a2, ← hl]
          rfl
      have HE := lw_HE (m := lw_m) (h := h) (ρ := ρ) (n0 := 11) (by omega) (by omega)
      have NX := cq_nxo_ok (y0 := 0) (pc0 := 1297) (chk := lw_chk) (m := lw_m) (h0 := h) (ρ0 := ρ) (n0 := 11) (Fin := lw_Fn) (nx := cq_nx lw_m lw_ck (cq_cl0 lw_m lw_ck lw_t)) (fun Z ρ1 ls st h2 d2 a hn hc R hd2 => by
        obtain ⟨y, pc, als, ast, fr, db, S⟩ := Z
        unfold lw_chk at hc
        split at hc
        · rename_i y' pc' ff0 k0 ff1 k1 ff2 k2 fi kk db' S' heq
          cases heq
          have c0 := (Bool.and_eq_true _ _ ▸ hc)
          have c1 := (Bool.and_eq_true _ _ ▸ c0.1)
          have c2 := (Bool.and_eq_true _ _ ▸ c1.1)
          have c3 := (Bool.and_eq_true _ _ ▸ c2.1)
          have c4 := (Bool.and_eq_true _ _ ▸ c3.1)
          have c5 := (Bool.and_eq_true _ _ ▸ c4.1)
          have c7 := (Bool.and_eq_true _ _ ▸ c5.1)
          have c8 := (Bool.and_eq_true _ _ ▸ c7.1)
          have c9 := (Bool.and_eq_true _ _ ▸ c8.1)
          obtain ⟨D, g1, g2, -⟩ := R ρ1 cq_ag.rf
          dsimp only at D g1 g2 hd2
          obtain ⟨u0, r0, e0, G0, g1⟩ := cq_gs_cons g1
          obtain ⟨u1, r1, e1, G1, g1⟩ := cq_gs_cons g1
          obtain ⟨u2, r2, e2, G2, g1⟩ := cq_gs_cons g1
          obtain ⟨u3, r3, e3, G3, g1⟩ := cq_gs_cons g1
          have e7 := cq_gs_nil g1
          have e8 := cq_gs_nil g2
          subst e0 e1 e2 e3 e7 e8
          have G0 : u0 = .ref k0 := G0
          have G1 : u1 = .ref k1 := G1
          have G2 : u2 = .ref k2 := G2
          rw [am_beq c9.1] at G0
          rw [am_beq c9.2] at G1
          rw [am_beq c8.2] at G2
          obtain ⟨j, ej, hj⟩ := G3
          subst G0 G1 G2 ej
          have a0 : ρ1 0 = i.toInt := a 0 (by decide)
          rw [cq_fe_ok c7.2, cq_ac_e, cq_s_e, a0] at hj
          have I2 : cq_Inv none h2 := by
            have I := D.I
            rw [Option.isNone_iff_eq_none.1 c5.2] at I
            exact I
          have A := D.A
          have A1 := Nat.le_of_ble_eq_true c4.2
          have A2 := Nat.le_of_ble_eq_true c3.2
          have hdb := Nat.le_of_ble_eq_true c2.2
          have F := D.F
          have sh : (h2.2.2.1 0).2.2 = L := by rw [F.sh 0 (Nat.lt_of_lt_of_le (by decide) I.lo), hl]
          have TT2 : ∀ q ∈ lw_ps, lw_T h2 q := fun q hq => lw_tie_ok D (List.all_eq_true.1 c0.2 q hq)
          obtain ⟨x, ev, fx⟩ := lw_loop hL k j h2 d2 (Nat.le_trans hdb hd2) I2 sh (by omega) (by omega) (by omega) TT2 (rT_fr I F lw_mX_rT X0_) (rp_Pfr I F lw_mX_rp_P X1_) (rp_Cfr I F lw_mX_rp_C X2_) (rL_fr I F lw_mX_rL X3_) (rbV_fr I F lw_mX_rbV X4_) (rD_fr I F lw_mX_rD X5_) (rB_fr I F lw_mX_rB X6_) (rQ_fr I F lw_mX_rQ X7_) (rY_fr I I2 F (Nat.le_antisymm (by have := A.1; omega) F.nx) lw_mX_rY X8_) (rG_fr I F lw_mX_rG X9_) (by have := A.1; omega) (by have := A.2; omega)
          exact ⟨x, am_ev.step rfl rfl ev, fx⟩
        · cases hc) (fun _ _ _ _ _ _ _ _ a hn hq H hd K => cq_nx_ok HE (cq_HC_g HE (lw_t_ok h I)) a hn hq H hd K)
      have HK : ∀ (Z : cq_Z) (ρ1 : Nat → Int) (ls st : List Value) (h2 : am_H) (d2 : Nat), cq_ag 11 ρ1 ρ → lw_chkE Z = true → cq_Rz lw_m h ρ1 Z ls st h2 [] → Z.2.2.2.2.2.1 ≤ d2 → ls = [.ref 0, .ref 40, .ref 78, .int i] ∧ st = [] ∧ cq_Inv none h2 ∧ cq_Fr lw_m h h2 ∧ (h2.2.2.1 0).2.2 = L ∧ (∀ q ∈ lw_ps, lw_T h2 q) ∧ h2.1 ≤ h.1 ∧ h2.2.1 ≤ h.2.1 ∧ 100 ≤ d2 := fun Z ρ1 ls st h2 d2 a hc R hd2 => by
        obtain ⟨y, pc, als, ast, fr, db, S⟩ := Z
        unfold lw_chkE at hc
        split at hc
        · rename_i y' pc' ff0 k0 ff1 k1 ff2 k2 fi kk db' S' heq
          cases heq
          have c0 := (Bool.and_eq_true _ _ ▸ hc)
          have c2 := (Bool.and_eq_true _ _ ▸ c0.1)
          have c3 := (Bool.and_eq_true _ _ ▸ c2.1)
          have c4 := (Bool.and_eq_true _ _ ▸ c3.1)
          have c5 := (Bool.and_eq_true _ _ ▸ c4.1)
          have c7 := (Bool.and_eq_true _ _ ▸ c5.1)
          have c8 := (Bool.and_eq_true _ _ ▸ c7.1)
          have c9 := (Bool.and_eq_true _ _ ▸ c8.1)
          obtain ⟨D, g1, g2, -⟩ := R ρ1 cq_ag.rf
          dsimp only at D g1 g2 hd2
          obtain ⟨u0, r0, e0, G0, g1⟩ := cq_gs_cons g1
          obtain ⟨u1, r1, e1, G1, g1⟩ := cq_gs_cons g1
          obtain ⟨u2, r2, e2, G2, g1⟩ := cq_gs_cons g1
          obtain ⟨u3, r3, e3, G3, g1⟩ := cq_gs_cons g1
          have e7 := cq_gs_nil g1
          have e8 := cq_gs_nil g2
          subst e0 e1 e2 e3 e7 e8
          have G0 : u0 = .ref k0 := G0
          have G1 : u1 = .ref k1 := G1
          have G2 : u2 = .ref k2 := G2
          rw [am_beq c9.1] at G0
          rw [am_beq c9.2] at G1
          rw [am_beq c8.2] at G2
          obtain ⟨j, ej, hj⟩ := G3
          subst G0 G1 G2 ej
          have a0 : ρ1 0 = i.toInt := a 0 (by decide)
          rw [cq_fe_ok c7.2, cq_s_e, a0] at hj
          have ej : j = i := Int32.toInt_inj.1 hj
          subst ej
          have I2 : cq_Inv none h2 := by
            have I := D.I
            rw [Option.isNone_iff_eq_none.1 c5.2] at I
            exact I
          have A1 := Nat.le_of_ble_eq_true c4.2
          have A2 := Nat.le_of_ble_eq_true c3.2
          have hdb := Nat.le_of_ble_eq_true c2.2
          have F := D.F
          exact ⟨rfl, rfl, I2, F, by rw [F.sh 0 (Nat.lt_of_lt_of_le (by decide) I.lo), hl], fun q hq => lw_tie_ok D (List.all_eq_true.1 c0.2 q hq), by have := D.A.1; omega, by have := D.A.2; omega, Nat.le_trans hdb hd2⟩
        · cases hc
      have ij : (i + Int32.ofInt 6).toInt = i.toInt + 6 := lw_ix (i := i) 6 i0 i1 (by decide)
      have NX32 := cq_nxo_ok (y0 := 0) (pc0 := 1156) (chk := lw_chkE) (m := lw_m) (h0 := h) (ρ0 := ρ) (n0 := 11) (Fin := lw_Fn) (fun Z ρ1 ls st h2 d2 a hn hc R hd2 => by
        obtain ⟨rfl, rfl, I2, F, sl, T2, A1, A2, hd3⟩ := HK Z ρ1 ls st h2 d2 a hc R hd2
        have YX0_ := rT_fr I F lw_mX_rT X0_
        have YX1_ := rp_Pfr I F lw_mX_rp_P X1_
        have YX2_ := rp_Cfr I F lw_mX_rp_C X2_
        have YX3_ := rL_fr I F lw_mX_rL X3_
        have YX4_ := rbV_fr I F lw_mX_rbV X4_
        have YX5_ := rD_fr I F lw_mX_rD X5_
        have YX6_ := rB_fr I F lw_mX_rB X6_
        have YX7_ := rQ_fr I F lw_mX_rQ X7_
        have YX8_ := rY_fr I I2 F (Nat.le_antisymm A1 F.nx) lw_mX_rY X8_
        have YX9_ := rG_fr I F lw_mX_rG X9_
        have sv2 : ∀ k : Nat, k < 6 → ∃ v : Int32, h2.2.2.2 0 (i.toInt.toNat + k) = .int v := fun k hk => I2.sc.2.2.2 (i.toInt.toNat + k) (by rw [sl]; omega)
        obtain ⟨w1, y1⟩ := sv2 1 (by decide)
        obtain ⟨dd, rfl⟩ : ∃ dd, d2 = dd + 20 + 1 := ⟨d2 - 21, by omega⟩
        obtain ⟨r, r2, h3, h4, Hc, Hm, I3, I4, F3, F4, TQ, B1, B2⟩ := sg_151 (d := dd) I2 w1
        have ZX0_ := rT_fr I3 F4 (by decide +kernel) (rT_fr I2 F3 (by decide +kernel) YX0_)
        have ZX1_ := rp_Pfr I3 F4 (by decide +kernel) (rp_Pfr I2 F3 (by decide +kernel) YX1_)
        have ZX2_ := rp_Cfr I3 F4 (by decide +kernel) (rp_Cfr I2 F3 (by decide +kernel) YX2_)
        have ZX3_ := rL_fr I3 F4 (by decide +kernel) (rL_fr I2 F3 (by decide +kernel) YX3_)
        have ZX4_ := rbV_fr I3 F4 (by decide +kernel) (rbV_fr I2 F3 (by decide +kernel) YX4_)
        have ZX5_ := rD_fr I3 F4 (by decide +kernel) (rD_fr I2 F3 (by decide +kernel) YX5_)
        have ZX6_ := rB_fr I3 F4 (by decide +kernel) (rB_fr I2 F3 (by decide +kernel) YX6_)
        have ZX7_ := rQ_fr I3 F4 (by decide +kernel) (rQ_fr I2 F3 (by decide +kernel) YX7_)
        have ZX9_ := rG_fr I3 F4 (by decide +kernel) (rG_fr I2 F3 (by decide +kernel) YX9_)
        have ZX8_ := gv_151 (d := dd + 20) (by omega) I2 I3 I4 F3 F4 ZX4_ Hc Hm YX8_
        have O40 := ax_o I2 (c := 40) (k := 11) (by decide +kernel)
        have O78 := ax_o I3 (c := 78) (k := 13) (by decide +kernel)
        have z3 : ∀ j, h3.2.2.2 0 j = h2.2.2.2 0 j := lw_frA F3 I2.lo (by decide) (by decide +kernel)
        have l3 : (h3.2.2.1 0).2.2 = L := by rw [F3.sh 0 (Nat.lt_of_lt_of_le (by decide) I2.lo), sl]
        have l4 : (h4.2.2.1 0).2.2 = L := by rw [F4.sh 0 (Nat.lt_of_lt_of_le (by decide) I3.lo), l3]
        have T4 := lw_TT I2 I3 F3 F4 (by decide +kernel) TQ T2
        obtain ⟨x, ev, fx⟩ := lw_loop hL k (i + Int32.ofInt 6) h4 (dd + 20 + 1) (by omega) I4 l4 (by omega) (by omega) (by omega) T4 ZX0_ ZX1_ ZX2_ ZX3_ ZX4_ ZX5_ ZX6_ ZX7_ ZX8_ ZX9_ (by omega) (by omega)
        exact ⟨x, sp_32 O40 O78 Hc Hm (lw_rd I2 sl (k := 1) i0 i1 (by decide) c6 y1) (lw_rd I3 l3 (k := 1) i0 i1 (by decide) c6 (by rw [z3, y1])) ev, fx⟩) NX
      have NX30 := cq_nxo_ok (y0 := 0) (pc0 := 1110) (chk := lw_chkE) (m := lw_m) (h0 := h) (ρ0 := ρ) (n0 := 11) (Fin := lw_Fn) (fun Z ρ1 ls st h2 d2 a hn hc R hd2 => by
        obtain ⟨rfl, rfl, I2, F, sl, T2, A1, A2, hd3⟩ := HK Z ρ1 ls st h2 d2 a hc R hd2
        have YX0_ := rT_fr I F lw_mX_rT X0_
        have YX1_ := rp_Pfr I F lw_mX_rp_P X1_
        have YX2_ := rp_Cfr I F lw_mX_rp_C X2_
        have YX3_ := rL_fr I F lw_mX_rL X3_
        have YX4_ := rbV_fr I F lw_mX_rbV X4_
        have YX5_ := rD_fr I F lw_mX_rD X5_
        have YX6_ := rB_fr I F lw_mX_rB X6_
        have YX7_ := rQ_fr I F lw_mX_rQ X7_
        have YX8_ := rY_fr I I2 F (Nat.le_antisymm A1 F.nx) lw_mX_rY X8_
        have YX9_ := rG_fr I F lw_mX_rG X9_
        have sv2 : ∀ k : Nat, k < 6 → ∃ v : Int32, h2.2.2.2 0 (i.toInt.toNat + k) = .int v := fun k hk => I2.sc.2.2.2 (i.toInt.toNat + k) (by rw [sl]; omega)
        obtain ⟨w1, y1⟩ := sv2 1 (by decide)
        obtain ⟨dd, rfl⟩ : ∃ dd, d2 = dd + 20 + 1 := ⟨d2 - 21, by omega⟩
        obtain ⟨r, r2, h3, h4, Hc, Hm, I3, I4, F3, F4, TQ, B1, B2⟩ := sg_142 (d := dd) I2 w1
        have ZX0_ := rT_fr I3 F4 (by decide +kernel) (rT_fr I2 F3 (by decide +kernel) YX0_)
        have ZX1_ := rp_Pfr I3 F4 (by decide +kernel) (rp_Pfr I2 F3 (by decide +kernel) YX1_)
        have ZX2_ := rp_Cfr I3 F4 (by decide +kernel) (rp_Cfr I2 F3 (by decide +kernel) YX2_)
        have ZX3_ := rL_fr I3 F4 (by decide +kernel) (rL_fr I2 F3 (by decide +kernel) YX3_)
        have ZX4_ := rbV_fr I3 F4 (by decide +kernel) (rbV_fr I2 F3 (by decide +kernel) YX4_)
        have ZX5_ := rD_fr I3 F4 (by decide +kernel) (rD_fr I2 F3 (by decide +kernel) YX5_)
        have ZX6_ := rB_fr I3 F4 (by decide +kernel) (rB_fr I2 F3 (by decide +kernel) YX6_)
        have ZX7_ := rQ_fr I3 F4 (by decide +kernel) (rQ_fr I2 F3 (by decide +kernel) YX7_)
        have ZX9_ := rG_fr I3 F4 (by decide +kernel) (rG_fr I2 F3 (by decide +kernel) YX9_)
        have ZX8_ := gv_142 (d := dd + 20) (by omega) I2 I3 I4 F3 F4 ZX4_ Hc Hm YX8_
        have O40 := ax_o I2 (c := 40) (k := 11) (by decide +kernel)
        have O78 := ax_o I3 (c := 78) (k := 13) (by decide +kernel)
        have z3 : ∀ j, h3.2.2.2 0 j = h2.2.2.2 0 j := lw_frA F3 I2.lo (by decide) (by decide +kernel)
        have l3 : (h3.2.2.1 0).2.2 = L := by rw [F3.sh 0 (Nat.lt_of_lt_of_le (by decide) I2.lo), sl]
        have l4 : (h4.2.2.1 0).2.2 = L := by rw [F4.sh 0 (Nat.lt_of_lt_of_le (by decide) I3.lo), l3]
        have T4 := lw_TT I2 I3 F3 F4 (by decide +kernel) TQ T2
        obtain ⟨x, ev, fx⟩ := lw_loop hL k (i + Int32.ofInt 6) h4 (dd + 20 + 1) (by omega) I4 l4 (by omega) (by omega) (by omega) T4 ZX0_ ZX1_ ZX2_ ZX3_ ZX4_ ZX5_ ZX6_ ZX7_ ZX8_ ZX9_ (by omega) (by omega)
        exact ⟨x, sp_30 O40 O78 Hc Hm (lw_rd I2 sl (k := 1) i0 i1 (by decide) c6 y1) (lw_rd I3 l3 (k := 1) i0 i1 (by decide) c6 (by rw [z3, y1])) ev, fx⟩) NX32
      have NX29 := cq_nxo_ok (y0 := 0) (pc0 := 1087) (chk := lw_chkE) (m := lw_m) (h0 := h) (ρ0 := ρ) (n0 := 11) (Fin := lw_Fn) (fun Z ρ1 ls st h2 d2 a hn hc R hd2 => by
        obtain ⟨rfl, rfl, I2, F, sl, T2, A1, A2, hd3⟩ := HK Z ρ1 ls st h2 d2 a hc R hd2
        have YX0_ := rT_fr I F lw_mX_rT X0_
        have YX1_ := rp_Pfr I F lw_mX_rp_P X1_
        have YX2_ := rp_Cfr I F lw_mX_rp_C X2_
        have YX3_ := rL_fr I F lw_mX_rL X3_
        have YX4_ := rbV_fr I F lw_mX_rbV X4_
        have YX5_ := rD_fr I F lw_mX_rD X5_
        have YX6_ := rB_fr I F lw_mX_rB X6_
        have YX7_ := rQ_fr I F lw_mX_rQ X7_
        have YX8_ := rY_fr I I2 F (Nat.le_antisymm A1 F.nx) lw_mX_rY X8_
        have YX9_ := rG_fr I F lw_mX_rG X9_
        have sv2 : ∀ k : Nat, k < 6 → ∃ v : Int32, h2.2.2.2 0 (i.toInt.toNat + k) = .int v := fun k hk => I2.sc.2.2.2 (i.toInt.toNat + k) (by rw [sl]; omega)
        obtain ⟨w1, y1⟩ := sv2 1 (by decide)
        obtain ⟨dd, rfl⟩ : ∃ dd, d2 = dd + 20 + 1 := ⟨d2 - 21, by omega⟩
        obtain ⟨r, r2, h3, h4, Hc, Hm, I3, I4, F3, F4, TQ, B1, B2⟩ := sg_136 (d := dd) I2 w1
        have ZX0_ := rT_fr I3 F4 (by decide +kernel) (rT_fr I2 F3 (by decide +kernel) YX0_)
        have ZX1_ := rp_Pfr I3 F4 (by decide +kernel) (rp_Pfr I2 F3 (by decide +kernel) YX1_)
        have ZX2_ := rp_Cfr I3 F4 (by decide +kernel) (rp_Cfr I2 F3 (by decide +kernel) YX2_)
        have ZX3_ := rL_fr I3 F4 (by decide +kernel) (rL_fr I2 F3 (by decide +kernel) YX3_)
        have ZX4_ := rbV_fr I3 F4 (by decide +kernel) (rbV_fr I2 F3 (by decide +kernel) YX4_)
        have ZX5_ := rD_fr I3 F4 (by decide +kernel) (rD_fr I2 F3 (by decide +kernel) YX5_)
        have ZX6_ := rB_fr I3 F4 (by decide +kernel) (rB_fr I2 F3 (by decide +kernel) YX6_)
        have ZX7_ := rQ_fr I3 F4 (by decide +kernel) (rQ_fr I2 F3 (by decide +kernel) YX7_)
        have ZX9_ := rG_fr I3 F4 (by decide +kernel) (rG_fr I2 F3 (by decide +kernel) YX9_)
        have ZX8_ := gv_136 (d := dd + 20) (by omega) I2 I3 I4 F3 F4 ZX4_ Hc Hm YX8_
        have O40 := ax_o I2 (c := 40) (k := 11) (by decide +kernel)
        have O78 := ax_o I3 (c := 78) (k := 13) (by decide +kernel)
        have z3 : ∀ j, h3.2.2.2 0 j = h2.2.2.2 0 j := lw_frA F3 I2.lo (by decide) (by decide +kernel)
        have l3 : (h3.2.2.1 0).2.2 = L := by rw [F3.sh 0 (Nat.lt_of_lt_of_le (by decide) I2.lo), sl]
        have l4 : (h4.2.2.1 0).2.2 = L := by rw [F4.sh 0 (Nat.lt_of_lt_of_le (by decide) I3.lo), l3]
        have T4 := lw_TT I2 I3 F3 F4 (by decide +kernel) TQ T2
        obtain ⟨x, ev, fx⟩ := lw_loop hL k (i + Int32.ofInt 6) h4 (dd + 20 + 1) (by omega) I4 l4 (by omega) (by omega) (by omega) T4 ZX0_ ZX1_ ZX2_ ZX3_ ZX4_ ZX5_ ZX6_ ZX7_ ZX8_ ZX9_ (by omega) (by omega)
        exact ⟨x, sp_29 O40 O78 Hc Hm (lw_rd I2 sl (k := 1) i0 i1 (by decide) c6 y1) (lw_rd I3 l3 (k := 1) i0 i1 (by decide) c6 (by rw [z3, y1])) ev, fx⟩) NX30
      have NX28 := cq_nxo_ok (y0 := 0) (pc0 := 1064) (chk := lw_chkE) (m := lw_m) (h0 := h) (ρ0 := ρ) (n0 := 11) (Fin := lw_Fn) (fun Z ρ1 ls st h2 d2 a hn hc R hd2 => by
        obtain ⟨rfl, rfl, I2, F, sl, T2, A1, A2, hd3⟩ := HK Z ρ1 ls st h2 d2 a hc R hd2
        have YX0_ := rT_fr I F lw_mX_rT X0_
        have YX1_ := rp_Pfr I F lw_mX_rp_P X1_
        have YX2_ := rp_Cfr I F lw_mX_rp_C X2_
        have YX3_ := rL_fr I F lw_mX_rL X3_
        have YX4_ := rbV_fr I F lw_mX_rbV X4_
        have YX5_ := rD_fr I F lw_mX_rD X5_
        have YX6_ := rB_fr I F lw_mX_rB X6_
        have YX7_ := rQ_fr I F lw_mX_rQ X7_
        have YX8_ := rY_fr I I2 F (Nat.le_antisymm A1 F.nx) lw_mX_rY X8_
        have YX9_ := rG_fr I F lw_mX_rG X9_
        have sv2 : ∀ k : Nat, k < 6 → ∃ v : Int32, h2.2.2.2 0 (i.toInt.toNat + k) = .int v := fun k hk => I2.sc.2.2.2 (i.toInt.toNat + k) (by rw [sl]; omega)
        obtain ⟨w1, y1⟩ := sv2 1 (by decide)
        obtain ⟨dd, rfl⟩ : ∃ dd, d2 = dd + 20 + 1 := ⟨d2 - 21, by omega⟩
        obtain ⟨r, r2, h3, h4, Hc, Hm, I3, I4, F3, F4, TQ, B1, B2⟩ := sg_135 (d := dd) I2 w1
        have ZX0_ := rT_fr I3 F4 (by decide +kernel) (rT_fr I2 F3 (by decide +kernel) YX0_)
        have ZX1_ := rp_Pfr I3 F4 (by decide +kernel) (rp_Pfr I2 F3 (by decide +kernel) YX1_)
        have ZX2_ := rp_Cfr I3 F4 (by decide +kernel) (rp_Cfr I2 F3 (by decide +kernel) YX2_)
        have ZX3_ := rL_fr I3 F4 (by decide +kernel) (rL_fr I2 F3 (by decide +kernel) YX3_)
        have ZX4_ := rbV_fr I3 F4 (by decide +kernel) (rbV_fr I2 F3 (by decide +kernel) YX4_)
        have ZX5_ := rD_fr I3 F4 (by decide +kernel) (rD_fr I2 F3 (by decide +kernel) YX5_)
        have ZX6_ := rB_fr I3 F4 (by decide +kernel) (rB_fr I2 F3 (by decide +kernel) YX6_)
        have ZX7_ := rQ_fr I3 F4 (by decide +kernel) (rQ_fr I2 F3 (by decide +kernel) YX7_)
        have ZX9_ := rG_fr I3 F4 (by decide +kernel) (rG_fr I2 F3 (by decide +kernel) YX9_)
        have ZX8_ := gv_135 (d := dd + 20) (by omega) I2 I3 I4 F3 F4 ZX4_ Hc Hm YX8_
        have O40 := ax_o I2 (c := 40) (k := 11) (by decide +kernel)
        have O78 := ax_o I3 (c := 78) (k := 13) (by decide +kernel)
        have z3 : ∀ j, h3.2.2.2 0 j = h2.2.2.2 0 j := lw_frA F3 I2.lo (by decide) (by decide +kernel)
        have l3 : (h3.2.2.1 0).2.2 = L := by rw [F3.sh 0 (Nat.lt_of_lt_of_le (by decide) I2.lo), sl]
        have l4 : (h4.2.2.1 0).2.2 = L := by rw [F4.sh 0 (Nat.lt_of_lt_of_le (by decide) I3.lo), l3]
        have T4 := lw_TT I2 I3 F3 F4 (by decide +kernel) TQ T2
        obtain ⟨x, ev, fx⟩ := lw_loop hL k (i + Int32.ofInt 6) h4 (dd + 20 + 1) (by omega) I4 l4 (by omega) (by omega) (by omega) T4 ZX0_ ZX1_ ZX2_ ZX3_ ZX4_ ZX5_ ZX6_ ZX7_ ZX8_ ZX9_ (by omega) (by omega)
        exact ⟨x, sp_28 O40 O78 Hc Hm (lw_rd I2 sl (k := 1) i0 i1 (by decide) c6 y1) (lw_rd I3 l3 (k := 1) i0 i1 (by decide) c6 (by rw [z3, y1])) ev, fx⟩) NX29
      have NX27 := cq_nxo_ok (y0 := 0) (pc0 := 1031) (chk := lw_chkE) (m := lw_m) (h0 := h) (ρ0 := ρ) (n0 := 11) (Fin := lw_Fn) (fun Z ρ1 ls st h2 d2 a hn hc R hd2 => by
        obtain ⟨rfl, rfl, I2, F, sl, T2, A1, A2, hd3⟩ := HK Z ρ1 ls st h2 d2 a hc R hd2
        have YX0_ := rT_fr I F lw_mX_rT X0_
        have YX1_ := rp_Pfr I F lw_mX_rp_P X1_
        have YX2_ := rp_Cfr I F lw_mX_rp_C X2_
        have YX3_ := rL_fr I F lw_mX_rL X3_
        have YX4_ := rbV_fr I F lw_mX_rbV X4_
        have YX5_ := rD_fr I F lw_mX_rD X5_
        have YX6_ := rB_fr I F lw_mX_rB X6_
        have YX7_ := rQ_fr I F lw_mX_rQ X7_
        have YX8_ := rY_fr I I2 F (Nat.le_antisymm A1 F.nx) lw_mX_rY X8_
        have YX9_ := rG_fr I F lw_mX_rG X9_
        have sv2 : ∀ k : Nat, k < 6 → ∃ v : Int32, h2.2.2.2 0 (i.toInt.toNat + k) = .int v := fun k hk => I2.sc.2.2.2 (i.toInt.toNat + k) (by rw [sl]; omega)
        obtain ⟨w1, y1⟩ := sv2 1 (by decide)
        obtain ⟨w2, y2⟩ := sv2 2 (by decide)
        obtain ⟨dd, rfl⟩ : ∃ dd, d2 = dd + 20 + 1 := ⟨d2 - 21, by omega⟩
        obtain ⟨r, r2, h3, h4, Hc, Hm, I3, I4, F3, F4, TQ, B1, B2⟩ := sg_132 (d := dd) I2 w1 w2
        have ZX0_ := rT_fr I3 F4 (by decide +kernel) (rT_fr I2 F3 (by decide +kernel) YX0_)
        have ZX1_ := rp_Pfr I3 F4 (by decide +kernel) (rp_Pfr I2 F3 (by decide +kernel) YX1_)
        have ZX2_ := rp_Cfr I3 F4 (by decide +kernel) (rp_Cfr I2 F3 (by decide +kernel) YX2_)
        have ZX3_ := rL_fr I3 F4 (by decide +kernel) (rL_fr I2 F3 (by decide +kernel) YX3_)
        have ZX4_ := rbV_fr I3 F4 (by decide +kernel) (rbV_fr I2 F3 (by decide +kernel) YX4_)
        have ZX5_ := rD_fr I3 F4 (by decide +kernel) (rD_fr I2 F3 (by decide +kernel) YX5_)
        have ZX6_ := rB_fr I3 F4 (by decide +kernel) (rB_fr I2 F3 (by decide +kernel) YX6_)
        have ZX7_ := rQ_fr I3 F4 (by decide +kernel) (rQ_fr I2 F3 (by decide +kernel) YX7_)
        have ZX9_ := rG_fr I3 F4 (by decide +kernel) (rG_fr I2 F3 (by decide +kernel) YX9_)
        have ZX8_ := gv_132 (d := dd + 20) (by omega) I2 I3 I4 F3 F4 ZX4_ Hc Hm YX8_
        have O40 := ax_o I2 (c := 40) (k := 11) (by decide +kernel)
        have O78 := ax_o I3 (c := 78) (k := 13) (by decide +kernel)
        have z3 : ∀ j, h3.2.2.2 0 j = h2.2.2.2 0 j := lw_frA F3 I2.lo (by decide) (by decide +kernel)
        have l3 : (h3.2.2.1 0).2.2 = L := by rw [F3.sh 0 (Nat.lt_of_lt_of_le (by decide) I2.lo), sl]
        have l4 : (h4.2.2.1 0).2.2 = L := by rw [F4.sh 0 (Nat.lt_of_lt_of_le (by decide) I3.lo), l3]
        have T4 := lw_TT I2 I3 F3 F4 (by decide +kernel) TQ T2
        obtain ⟨x, ev, fx⟩ := lw_loop hL k (i + Int32.ofInt 6) h4 (dd + 20 + 1) (by omega) I4 l4 (by omega) (by omega) (by omega) T4 ZX0_ ZX1_ ZX2_ ZX3_ ZX4_ ZX5_ ZX6_ ZX7_ ZX8_ ZX9_ (by omega) (by omega)
        exact ⟨x, sp_27 O40 O78 Hc Hm (lw_rd I2 sl (k := 1) i0 i1 (by decide) c6 y1) (lw_rd I2 sl (k := 2) i0 i1 (by decide) c6 y2) (lw_rd I3 l3 (k := 1) i0 i1 (by decide) c6 (by rw [z3, y1])) (lw_rd I3 l3 (k := 2) i0 i1 (by decide) c6 (by rw [z3, y2])) ev, fx⟩) NX28
      have NX26 := cq_nxo_ok (y0 := 0) (pc0 := 1018) (chk := lw_chkE) (m := lw_m) (h0 := h) (ρ0 := ρ) (n0 := 11) (Fin := lw_Fn) (fun Z ρ1 ls st h2 d2 a hn hc R hd2 => by
        obtain ⟨rfl, rfl, I2, F, sl, T2, A1, A2, hd3⟩ := HK Z ρ1 ls st h2 d2 a hc R hd2
        have YX0_ := rT_fr I F lw_mX_rT X0_
        have YX1_ := rp_Pfr I F lw_mX_rp_P X1_
        have YX2_ := rp_Cfr I F lw_mX_rp_C X2_
        have YX3_ := rL_fr I F lw_mX_rL X3_
        have YX4_ := rbV_fr I F lw_mX_rbV X4_
        have YX5_ := rD_fr I F lw_mX_rD X5_
        have YX6_ := rB_fr I F lw_mX_rB X6_
        have YX7_ := rQ_fr I F lw_mX_rQ X7_
        have YX8_ := rY_fr I I2 F (Nat.le_antisymm A1 F.nx) lw_mX_rY X8_
        have YX9_ := rG_fr I F lw_mX_rG X9_
        obtain ⟨dd, rfl⟩ : ∃ dd, d2 = dd + 20 + 1 := ⟨d2 - 21, by omega⟩
        obtain ⟨r, r2, h3, h4, Hc, Hm, I3, I4, F3, F4, TQ, B1, B2⟩ := sg_128 (d := dd) I2
        have ZX0_ := rT_fr I3 F4 (by decide +kernel) (rT_fr I2 F3 (by decide +kernel) YX0_)
        have ZX1_ := rp_Pfr I3 F4 (by decide +kernel) (rp_Pfr I2 F3 (by decide +kernel) YX1_)
        have ZX2_ := rp_Cfr I3 F4 (by decide +kernel) (rp_Cfr I2 F3 (by decide +kernel) YX2_)
        have ZX3_ := rL_fr I3 F4 (by decide +kernel) (rL_fr I2 F3 (by decide +kernel) YX3_)
        have ZX4_ := rbV_fr I3 F4 (by decide +kernel) (rbV_fr I2 F3 (by decide +kernel) YX4_)
        have ZX5_ := rD_fr I3 F4 (by decide +kernel) (rD_fr I2 F3 (by decide +kernel) YX5_)
        have ZX6_ := rB_fr I3 F4 (by decide +kernel) (rB_fr I2 F3 (by decide +kernel) YX6_)
        have ZX7_ := rQ_fr I3 F4 (by decide +kernel) (rQ_fr I2 F3 (by decide +kernel) YX7_)
        have ZX9_ := rG_fr I3 F4 (by decide +kernel) (rG_fr I2 F3 (by decide +kernel) YX9_)
        have ZX8_ := gv_128 (d := dd + 20) (by omega) I2 I3 I4 F3 F4 ZX4_ Hc Hm YX8_
        have O40 := ax_o I2 (c := 40) (k := 11) (by decide +kernel)
        have O78 := ax_o I3 (c := 78) (k := 13) (by decide +kernel)
        have z3 : ∀ j, h3.2.2.2 0 j = h2.2.2.2 0 j := lw_frA F3 I2.lo (by decide) (by decide +kernel)
        have l3 : (h3.2.2.1 0).2.2 = L := by rw [F3.sh 0 (Nat.lt_of_lt_of_le (by decide) I2.lo), sl]
        have l4 : (h4.2.2.1 0).2.2 = L := by rw [F4.sh 0 (Nat.lt_of_lt_of_le (by decide) I3.lo), l3]
        have T4 := lw_TT I2 I3 F3 F4 (by decide +kernel) TQ T2
        obtain ⟨x, ev, fx⟩ := lw_loop hL k (i + Int32.ofInt 6) h4 (dd + 20 + 1) (by omega) I4 l4 (by omega) (by omega) (by omega) T4 ZX0_ ZX1_ ZX2_ ZX3_ ZX4_ ZX5_ ZX6_ ZX7_ ZX8_ ZX9_ (by omega) (by omega)
        exact ⟨x, sp_26 O40 O78 Hc Hm   ev, fx⟩) NX27
      have NX24 := cq_nxo_ok (y0 := 0) (pc0 := 972) (chk := lw_chkE) (m := lw_m) (h0 := h) (ρ0 := ρ) (n0 := 11) (Fin := lw_Fn) (fun Z ρ1 ls st h2 d2 a hn hc R hd2 => by
        obtain ⟨rfl, rfl, I2, F, sl, T2, A1, A2, hd3⟩ := HK Z ρ1 ls st h2 d2 a hc R hd2
        have YX0_ := rT_fr I F lw_mX_rT X0_
        have YX1_ := rp_Pfr I F lw_mX_rp_P X1_
        have YX2_ := rp_Cfr I F lw_mX_rp_C X2_
        have YX3_ := rL_fr I F lw_mX_rL X3_
        have YX4_ := rbV_fr I F lw_mX_rbV X4_
        have YX5_ := rD_fr I F lw_mX_rD X5_
        have YX6_ := rB_fr I F lw_mX_rB X6_
        have YX7_ := rQ_fr I F lw_mX_rQ X7_
        have YX8_ := rY_fr I I2 F (Nat.le_antisymm A1 F.nx) lw_mX_rY X8_
        have YX9_ := rG_fr I F lw_mX_rG X9_
        have sv2 : ∀ k : Nat, k < 6 → ∃ v : Int32, h2.2.2.2 0 (i.toInt.toNat + k) = .int v := fun k hk => I2.sc.2.2.2 (i.toInt.toNat + k) (by rw [sl]; omega)
        obtain ⟨w1, y1⟩ := sv2 1 (by decide)
        obtain ⟨dd, rfl⟩ : ∃ dd, d2 = dd + 20 + 1 := ⟨d2 - 21, by omega⟩
        obtain ⟨r, r2, h3, h4, Hc, Hm, I3, I4, F3, F4, TQ, B1, B2⟩ := sg_115 (d := dd) I2 w1
        have ZX0_ := rT_fr I3 F4 (by decide +kernel) (rT_fr I2 F3 (by decide +kernel) YX0_)
        have ZX1_ := rp_Pfr I3 F4 (by decide +kernel) (rp_Pfr I2 F3 (by decide +kernel) YX1_)
        have ZX2_ := rp_Cfr I3 F4 (by decide +kernel) (rp_Cfr I2 F3 (by decide +kernel) YX2_)
        have ZX3_ := rL_fr I3 F4 (by decide +kernel) (rL_fr I2 F3 (by decide +kernel) YX3_)
        have ZX4_ := rbV_fr I3 F4 (by decide +kernel) (rbV_fr I2 F3 (by decide +kernel) YX4_)
        have ZX5_ := rD_fr I3 F4 (by decide +kernel) (rD_fr I2 F3 (by decide +kernel) YX5_)
        have ZX6_ := rB_fr I3 F4 (by decide +kernel) (rB_fr I2 F3 (by decide +kernel) YX6_)
        have ZX7_ := rQ_fr I3 F4 (by decide +kernel) (rQ_fr I2 F3 (by decide +kernel) YX7_)
        have ZX9_ := rG_fr I3 F4 (by decide +kernel) (rG_fr I2 F3 (by decide +kernel) YX9_)
        have ZX8_ := gv_115 (d := dd + 20) (by omega) I2 I3 I4 F3 F4 ZX4_ Hc Hm YX8_
        have O40 := ax_o I2 (c := 40) (k := 11) (by decide +kernel)
        have O78 := ax_o I3 (c := 78) (k := 13) (by decide +kernel)
        have z3 : ∀ j, h3.2.2.2 0 j = h2.2.2.2 0 j := lw_frA F3 I2.lo (by decide) (by decide +kernel)
        have l3 : (h3.2.2.1 0).2.2 = L := by rw [F3.sh 0 (Nat.lt_of_lt_of_le (by decide) I2.lo), sl]
        have l4 : (h4.2.2.1 0).2.2 = L := by rw [F4.sh 0 (Nat.lt_of_lt_of_le (by decide) I3.lo), l3]
        have T4 := lw_TT I2 I3 F3 F4 (by decide +kernel) TQ T2
        obtain ⟨x, ev, fx⟩ := lw_loop hL k (i + Int32.ofInt 6) h4 (dd + 20 + 1) (by omega) I4 l4 (by omega) (by omega) (by omega) T4 ZX0_ ZX1_ ZX2_ ZX3_ ZX4_ ZX5_ ZX6_ ZX7_ ZX8_ ZX9_ (by omega) (by omega)
        exact ⟨x, sp_24 O40 O78 Hc Hm (lw_rd I2 sl (k := 1) i0 i1 (by decide) c6 y1) (lw_rd I3 l3 (k := 1) i0 i1 (by decide) c6 (by rw [z3, y1])) ev, fx⟩) NX26
      have NX22 := cq_nxo_ok (y0 := 0) (pc0 := 946) (chk := lw_chkE) (m := lw_m) (h0 := h) (ρ0 := ρ) (n0 := 11) (Fin := lw_Fn) (fun Z ρ1 ls st h2 d2 a hn hc R hd2 => by
        obtain ⟨rfl, rfl, I2, F, sl, T2, A1, A2, hd3⟩ := HK Z ρ1 ls st h2 d2 a hc R hd2
        have YX0_ := rT_fr I F lw_mX_rT X0_
        have YX1_ := rp_Pfr I F lw_mX_rp_P X1_
        have YX2_ := rp_Cfr I F lw_mX_rp_C X2_
        have YX3_ := rL_fr I F lw_mX_rL X3_
        have YX4_ := rbV_fr I F lw_mX_rbV X4_
        have YX5_ := rD_fr I F lw_mX_rD X5_
        have YX6_ := rB_fr I F lw_mX_rB X6_
        have YX7_ := rQ_fr I F lw_mX_rQ X7_
        have YX8_ := rY_fr I I2 F (Nat.le_antisymm A1 F.nx) lw_mX_rY X8_
        have YX9_ := rG_fr I F lw_mX_rG X9_
        obtain ⟨dd, rfl⟩ : ∃ dd, d2 = dd + 20 + 1 := ⟨d2 - 21, by omega⟩
        obtain ⟨r, r2, h3, h4, Hc, Hm, I3, I4, F3, F4, TQ, B1, B2⟩ := sg_106 (d := dd) I2
        have ZX0_ := rT_fr I3 F4 (by decide +kernel) (rT_fr I2 F3 (by decide +kernel) YX0_)
        have ZX1_ := rp_Pfr I3 F4 (by decide +kernel) (rp_Pfr I2 F3 (by decide +kernel) YX1_)
        have ZX2_ := rp_Cfr I3 F4 (by decide +kernel) (rp_Cfr I2 F3 (by decide +kernel) YX2_)
        have ZX3_ := rL_fr I3 F4 (by decide +kernel) (rL_fr I2 F3 (by decide +kernel) YX3_)
        have ZX4_ := rbV_fr I3 F4 (by decide +kernel) (rbV_fr I2 F3 (by decide +kernel) YX4_)
        have ZX5_ := rD_fr I3 F4 (by decide +kernel) (rD_fr I2 F3 (by decide +kernel) YX5_)
        have ZX6_ := rB_fr I3 F4 (by decide +kernel) (rB_fr I2 F3 (by decide +kernel) YX6_)
        have ZX7_ := rQ_fr I3 F4 (by decide +kernel) (rQ_fr I2 F3 (by decide +kernel) YX7_)
        have ZX9_ := rG_fr I3 F4 (by decide +kernel) (rG_fr I2 F3 (by decide +kernel) YX9_)
        have ZX8_ := gv_106 (d := dd + 20) (by omega) I2 I3 I4 F3 F4 ZX4_ Hc Hm YX8_
        have O40 := ax_o I2 (c := 40) (k := 11) (by decide +kernel)
        have O78 := ax_o I3 (c := 78) (k := 13) (by decide +kernel)
        have z3 : ∀ j, h3.2.2.2 0 j = h2.2.2.2 0 j := lw_frA F3 I2.lo (by decide) (by decide +kernel)
        have l3 : (h3.2.2.1 0).2.2 = L := by rw [F3.sh 0 (Nat.lt_of_lt_of_le (by decide) I2.lo), sl]
        have l4 : (h4.2.2.1 0).2.2 = L := by rw [F4.sh 0 (Nat.lt_of_lt_of_le (by decide) I3.lo), l3]
        have T4 := lw_TT I2 I3 F3 F4 (by decide +kernel) TQ T2
        obtain ⟨x, ev, fx⟩ := lw_loop hL k (i + Int32.ofInt 6) h4 (dd + 20 + 1) (by omega) I4 l4 (by omega) (by omega) (by omega) T4 ZX0_ ZX1_ ZX2_ ZX3_ ZX4_ ZX5_ ZX6_ ZX7_ ZX8_ ZX9_ (by omega) (by omega)
        exact ⟨x, sp_22 O40 O78 Hc Hm   ev, fx⟩) NX24
      have NX21 := cq_nxo_ok (y0 := 0) (pc0 := 913) (chk := lw_chkE) (m := lw_m) (h0 := h) (ρ0 := ρ) (n0 := 11) (Fin := lw_Fn) (fun Z ρ1 ls st h2 d2 a hn hc R hd2 => by
        obtain ⟨rfl, rfl, I2, F, sl, T2, A1, A2, hd3⟩ := HK Z ρ1 ls st h2 d2 a hc R hd2
        have YX0_ := rT_fr I F lw_mX_rT X0_
        have YX1_ := rp_Pfr I F lw_mX_rp_P X1_
        have YX2_ := rp_Cfr I F lw_mX_rp_C X2_
        have YX3_ := rL_fr I F lw_mX_rL X3_
        have YX4_ := rbV_fr I F lw_mX_rbV X4_
        have YX5_ := rD_fr I F lw_mX_rD X5_
        have YX6_ := rB_fr I F lw_mX_rB X6_
        have YX7_ := rQ_fr I F lw_mX_rQ X7_
        have YX8_ := rY_fr I I2 F (Nat.le_antisymm A1 F.nx) lw_mX_rY X8_
        have YX9_ := rG_fr I F lw_mX_rG X9_
        have sv2 : ∀ k : Nat, k < 6 → ∃ v : Int32, h2.2.2.2 0 (i.toInt.toNat + k) = .int v := fun k hk => I2.sc.2.2.2 (i.toInt.toNat + k) (by rw [sl]; omega)
        obtain ⟨w1, y1⟩ := sv2 1 (by decide)
        obtain ⟨w2, y2⟩ := sv2 2 (by decide)
        obtain ⟨dd, rfl⟩ : ∃ dd, d2 = dd + 20 + 1 := ⟨d2 - 21, by omega⟩
        obtain ⟨r, r2, h3, h4, Hc, Hm, I3, I4, F3, F4, TQ, B1, B2⟩ := sg_103 (d := dd) I2 w1 w2
        have ZX0_ := rT_fr I3 F4 (by decide +kernel) (rT_fr I2 F3 (by decide +kernel) YX0_)
        have ZX1_ := rp_Pfr I3 F4 (by decide +kernel) (rp_Pfr I2 F3 (by decide +kernel) YX1_)
        have ZX2_ := rp_Cfr I3 F4 (by decide +kernel) (rp_Cfr I2 F3 (by decide +kernel) YX2_)
        have ZX3_ := rL_fr I3 F4 (by decide +kernel) (rL_fr I2 F3 (by decide +kernel) YX3_)
        have ZX4_ := rbV_fr I3 F4 (by decide +kernel) (rbV_fr I2 F3 (by decide +kernel) YX4_)
        have ZX5_ := rD_fr I3 F4 (by decide +kernel) (rD_fr I2 F3 (by decide +kernel) YX5_)
        have ZX6_ := rB_fr I3 F4 (by decide +kernel) (rB_fr I2 F3 (by decide +kernel) YX6_)
        have ZX7_ := rQ_fr I3 F4 (by decide +kernel) (rQ_fr I2 F3 (by decide +kernel) YX7_)
        have ZX9_ := rG_fr I3 F4 (by decide +kernel) (rG_fr I2 F3 (by decide +kernel) YX9_)
        have ZX8_ := gv_103 (d := dd + 20) (by omega) I2 I3 I4 F3 F4 ZX4_ Hc Hm YX8_
        have O40 := ax_o I2 (c := 40) (k := 11) (by decide +kernel)
        have O78 := ax_o I3 (c := 78) (k := 13) (by decide +kernel)
        have z3 : ∀ j, h3.2.2.2 0 j = h2.2.2.2 0 j := lw_frA F3 I2.lo (by decide) (by decide +kernel)
        have l3 : (h3.2.2.1 0).2.2 = L := by rw [F3.sh 0 (Nat.lt_of_lt_of_le (by decide) I2.lo), sl]
        have l4 : (h4.2.2.1 0).2.2 = L := by rw [F4.sh 0 (Nat.lt_of_lt_of_le (by decide) I3.lo), l3]
        have T4 := lw_TT I2 I3 F3 F4 (by decide +kernel) TQ T2
        obtain ⟨x, ev, fx⟩ := lw_loop hL k (i + Int32.ofInt 6) h4 (dd + 20 + 1) (by omega) I4 l4 (by omega) (by omega) (by omega) T4 ZX0_ ZX1_ ZX2_ ZX3_ ZX4_ ZX5_ ZX6_ ZX7_ ZX8_ ZX9_ (by omega) (by omega)
        exact ⟨x, sp_21 O40 O78 Hc Hm (lw_rd I2 sl (k := 1) i0 i1 (by decide) c6 y1) (lw_rd I2 sl (k := 2) i0 i1 (by decide) c6 y2) (lw_rd I3 l3 (k := 1) i0 i1 (by decide) c6 (by rw [z3, y1])) (lw_rd I3 l3 (k := 2) i0 i1 (by decide) c6 (by rw [z3, y2])) ev, fx⟩) NX22
      have NX12 := cq_nxo_ok (y0 := 0) (pc0 := 616) (chk := lw_chkE) (m := lw_m) (h0 := h) (ρ0 := ρ) (n0 := 11) (Fin := lw_Fn) (fun Z ρ1 ls st h2 d2 a hn hc R hd2 => by
        obtain ⟨rfl, rfl, I2, F, sl, T2, A1, A2, hd3⟩ := HK Z ρ1 ls st h2 d2 a hc R hd2
        have YX0_ := rT_fr I F lw_mX_rT X0_
        have YX1_ := rp_Pfr I F lw_mX_rp_P X1_
        have YX2_ := rp_Cfr I F lw_mX_rp_C X2_
        have YX3_ := rL_fr I F lw_mX_rL X3_
        have YX4_ := rbV_fr I F lw_mX_rbV X4_
        have YX5_ := rD_fr I F lw_mX_rD X5_
        have YX6_ := rB_fr I F lw_mX_rB X6_
        have YX7_ := rQ_fr I F lw_mX_rQ X7_
        have YX8_ := rY_fr I I2 F (Nat.le_antisymm A1 F.nx) lw_mX_rY X8_
        have YX9_ := rG_fr I F lw_mX_rG X9_
        have sv2 : ∀ k : Nat, k < 6 → ∃ v : Int32, h2.2.2.2 0 (i.toInt.toNat + k) = .int v := fun k hk => I2.sc.2.2.2 (i.toInt.toNat + k) (by rw [sl]; omega)
        obtain ⟨w1, y1⟩ := sv2 1 (by decide)
        obtain ⟨w2, y2⟩ := sv2 2 (by decide)
        obtain ⟨dd, rfl⟩ : ∃ dd, d2 = dd + 20 + 1 := ⟨d2 - 21, by omega⟩
        obtain ⟨r, r2, h3, h4, Hc, Hm, I3, I4, F3, F4, TQ, B1, B2⟩ := sg_73 (d := dd) I2 w1 w2
        have ZX0_ := rT_fr I3 F4 (by decide +kernel) (rT_fr I2 F3 (by decide +kernel) YX0_)
        have ZX1_ := rp_Pfr I3 F4 (by decide +kernel) (rp_Pfr I2 F3 (by decide +kernel) YX1_)
        have ZX2_ := rp_Cfr I3 F4 (by decide +kernel) (rp_Cfr I2 F3 (by decide +kernel) YX2_)
        have ZX3_ := rL_fr I3 F4 (by decide +kernel) (rL_fr I2 F3 (by decide +kernel) YX3_)
        have ZX4_ := rbV_fr I3 F4 (by decide +kernel) (rbV_fr I2 F3 (by decide +kernel) YX4_)
        have ZX5_ := rD_fr I3 F4 (by decide +kernel) (rD_fr I2 F3 (by decide +kernel) YX5_)
        have ZX6_ := rB_fr I3 F4 (by decide +kernel) (rB_fr I2 F3 (by decide +kernel) YX6_)
        have ZX7_ := rQ_fr I3 F4 (by decide +kernel) (rQ_fr I2 F3 (by decide +kernel) YX7_)
        have ZX9_ := rG_fr I3 F4 (by decide +kernel) (rG_fr I2 F3 (by decide +kernel) YX9_)
        have ZX8_ := gv_73 (d := dd + 20) (by omega) I2 I3 I4 F3 F4 ZX4_ Hc Hm YX8_
        have O40 := ax_o I2 (c := 40) (k := 11) (by decide +kernel)
        have O78 := ax_o I3 (c := 78) (k := 13) (by decide +kernel)
        have z3 : ∀ j, h3.2.2.2 0 j = h2.2.2.2 0 j := lw_frA F3 I2.lo (by decide) (by decide +kernel)
        have l3 : (h3.2.2.1 0).2.2 = L := by rw [F3.sh 0 (Nat.lt_of_lt_of_le (by decide) I2.lo), sl]
        have l4 : (h4.2.2.1 0).2.2 = L := by rw [F4.sh 0 (Nat.lt_of_lt_of_le (by decide) I3.lo), l3]
        have T4 := lw_TT I2 I3 F3 F4 (by decide +kernel) TQ T2
        obtain ⟨x, ev, fx⟩ := lw_loop hL k (i + Int32.ofInt 6) h4 (dd + 20 + 1) (by omega) I4 l4 (by omega) (by omega) (by omega) T4 ZX0_ ZX1_ ZX2_ ZX3_ ZX4_ ZX5_ ZX6_ ZX7_ ZX8_ ZX9_ (by omega) (by omega)
        exact ⟨x, sp_12 O40 O78 Hc Hm (lw_rd I2 sl (k := 1) i0 i1 (by decide) c6 y1) (lw_rd I2 sl (k := 2) i0 i1 (by decide) c6 y2) (lw_rd I3 l3 (k := 1) i0 i1 (by decide) c6 (by rw [z3, y1])) (lw_rd I3 l3 (k := 2) i0 i1 (by decide) c6 (by rw [z3, y2])) ev, fx⟩) NX21
      have NX11 := cq_nxo_ok (y0 := 0) (pc0 := 573) (chk := lw_chkE) (m := lw_m) (h0 := h) (ρ0 := ρ) (n0 := 11) (Fin := lw_Fn) (fun Z ρ1 ls st h2 d2 a hn hc R hd2 => by
        obtain ⟨rfl, rfl, I2, F, sl, T2, A1, A2, hd3⟩ := HK Z ρ1 ls st h2 d2 a hc R hd2
        have YX0_ := rT_fr I F lw_mX_rT X0_
        have YX1_ := rp_Pfr I F lw_mX_rp_P X1_
        have YX2_ := rp_Cfr I F lw_mX_rp_C X2_
        have YX3_ := rL_fr I F lw_mX_rL X3_
        have YX4_ := rbV_fr I F lw_mX_rbV X4_
        have YX5_ := rD_fr I F lw_mX_rD X5_
        have YX6_ := rB_fr I F lw_mX_rB X6_
        have YX7_ := rQ_fr I F lw_mX_rQ X7_
        have YX8_ := rY_fr I I2 F (Nat.le_antisymm A1 F.nx) lw_mX_rY X8_
        have YX9_ := rG_fr I F lw_mX_rG X9_
        have sv2 : ∀ k : Nat, k < 6 → ∃ v : Int32, h2.2.2.2 0 (i.toInt.toNat + k) = .int v := fun k hk => I2.sc.2.2.2 (i.toInt.toNat + k) (by rw [sl]; omega)
        obtain ⟨w1, y1⟩ := sv2 1 (by decide)
        obtain ⟨w2, y2⟩ := sv2 2 (by decide)
        obtain ⟨w3, y3⟩ := sv2 3 (by decide)
        obtain ⟨dd, rfl⟩ : ∃ dd, d2 = dd + 20 + 1 := ⟨d2 - 21, by omega⟩
        obtain ⟨r, r2, h3, h4, Hc, Hm, I3, I4, F3, F4, TQ, B1, B2⟩ := sg_67 (d := dd) I2 w1 w2 w3
        have ZX0_ := rT_fr I3 F4 (by decide +kernel) (rT_fr I2 F3 (by decide +kernel) YX0_)
        have ZX1_ := rp_Pfr I3 F4 (by decide +kernel) (rp_Pfr I2 F3 (by decide +kernel) YX1_)
        have ZX2_ := rp_Cfr I3 F4 (by decide +kernel) (rp_Cfr I2 F3 (by decide +kernel) YX2_)
        have ZX3_ := rL_fr I3 F4 (by decide +kernel) (rL_fr I2 F3 (by decide +kernel) YX3_)
        have ZX4_ := rbV_fr I3 F4 (by decide +kernel) (rbV_fr I2 F3 (by decide +kernel) YX4_)
        have ZX5_ := rD_fr I3 F4 (by decide +kernel) (rD_fr I2 F3 (by decide +kernel) YX5_)
        have ZX6_ := rB_fr I3 F4 (by decide +kernel) (rB_fr I2 F3 (by decide +kernel) YX6_)
        have ZX7_ := rQ_fr I3 F4 (by decide +kernel) (rQ_fr I2 F3 (by decide +kernel) YX7_)
        have ZX9_ := rG_fr I3 F4 (by decide +kernel) (rG_fr I2 F3 (by decide +kernel) YX9_)
        have ZX8_ := gv_67 (d := dd + 20) (by omega) I2 I3 I4 F3 F4 ZX4_ Hc Hm YX8_
        have O40 := ax_o I2 (c := 40) (k := 11) (by decide +kernel)
        have O78 := ax_o I3 (c := 78) (k := 13) (by decide +kernel)
        have z3 : ∀ j, h3.2.2.2 0 j = h2.2.2.2 0 j := lw_frA F3 I2.lo (by decide) (by decide +kernel)
        have l3 : (h3.2.2.1 0).2.2 = L := by rw [F3.sh 0 (Nat.lt_of_lt_of_le (by decide) I2.lo), sl]
        have l4 : (h4.2.2.1 0).2.2 = L := by rw [F4.sh 0 (Nat.lt_of_lt_of_le (by decide) I3.lo), l3]
        have T4 := lw_TT I2 I3 F3 F4 (by decide +kernel) TQ T2
        obtain ⟨x, ev, fx⟩ := lw_loop hL k (i + Int32.ofInt 6) h4 (dd + 20 + 1) (by omega) I4 l4 (by omega) (by omega) (by omega) T4 ZX0_ ZX1_ ZX2_ ZX3_ ZX4_ ZX5_ ZX6_ ZX7_ ZX8_ ZX9_ (by omega) (by omega)
        exact ⟨x, sp_11 O40 O78 Hc Hm (lw_rd I2 sl (k := 1) i0 i1 (by decide) c6 y1) (lw_rd I2 sl (k := 2) i0 i1 (by decide) c6 y2) (lw_rd I2 sl (k := 3) i0 i1 (by decide) c6 y3) (lw_rd I3 l3 (k := 1) i0 i1 (by decide) c6 (by rw [z3, y1])) (lw_rd I3 l3 (k := 2) i0 i1 (by decide) c6 (by rw [z3, y2])) (lw_rd I3 l3 (k := 3) i0 i1 (by decide) c6 (by rw [z3, y3])) ev, fx⟩) NX12
      have NX10 := cq_nxo_ok (y0 := 0) (pc0 := 530) (chk := lw_chkE) (m := lw_m) (h0 := h) (ρ0 := ρ) (n0 := 11) (Fin := lw_Fn) (fun Z ρ1 ls st h2 d2 a hn hc R hd2 => by
        obtain ⟨rfl, rfl, I2, F, sl, T2, A1, A2, hd3⟩ := HK Z ρ1 ls st h2 d2 a hc R hd2
        have YX0_ := rT_fr I F lw_mX_rT X0_
        have YX1_ := rp_Pfr I F lw_mX_rp_P X1_
        have YX2_ := rp_Cfr I F lw_mX_rp_C X2_
        have YX3_ := rL_fr I F lw_mX_rL X3_
        have YX4_ := rbV_fr I F lw_mX_rbV X4_
        have YX5_ := rD_fr I F lw_mX_rD X5_
        have YX6_ := rB_fr I F lw_mX_rB X6_
        have YX7_ := rQ_fr I F lw_mX_rQ X7_
        have YX8_ := rY_fr I I2 F (Nat.le_antisymm A1 F.nx) lw_mX_rY X8_
        have YX9_ := rG_fr I F lw_mX_rG X9_
        have sv2 : ∀ k : Nat, k < 6 → ∃ v : Int32, h2.2.2.2 0 (i.toInt.toNat + k) = .int v := fun k hk => I2.sc.2.2.2 (i.toInt.toNat + k) (by rw [sl]; omega)
        obtain ⟨w1, y1⟩ := sv2 1 (by decide)
        obtain ⟨w2, y2⟩ := sv2 2 (by decide)
        obtain ⟨w3, y3⟩ := sv2 3 (by decide)
        obtain ⟨dd, rfl⟩ : ∃ dd, d2 = dd + 20 + 1 := ⟨d2 - 21, by omega⟩
        obtain ⟨r, r2, h3, h4, Hc, Hm, I3, I4, F3, F4, TQ, B1, B2⟩ := sg_65 (d := dd) I2 w1 w2 w3
        have ZX0_ := rT_fr I3 F4 (by decide +kernel) (rT_fr I2 F3 (by decide +kernel) YX0_)
        have ZX1_ := rp_Pfr I3 F4 (by decide +kernel) (rp_Pfr I2 F3 (by decide +kernel) YX1_)
        have ZX2_ := rp_Cfr I3 F4 (by decide +kernel) (rp_Cfr I2 F3 (by decide +kernel) YX2_)
        have ZX3_ := rL_fr I3 F4 (by decide +kernel) (rL_fr I2 F3 (by decide +kernel) YX3_)
        have ZX4_ := rbV_fr I3 F4 (by decide +kernel) (rbV_fr I2 F3 (by decide +kernel) YX4_)
        have ZX5_ := rD_fr I3 F4 (by decide +kernel) (rD_fr I2 F3 (by decide +kernel) YX5_)
        have ZX6_ := rB_fr I3 F4 (by decide +kernel) (rB_fr I2 F3 (by decide +kernel) YX6_)
        have ZX7_ := rQ_fr I3 F4 (by decide +kernel) (rQ_fr I2 F3 (by decide +kernel) YX7_)
        have ZX9_ := rG_fr I3 F4 (by decide +kernel) (rG_fr I2 F3 (by decide +kernel) YX9_)
        have ZX8_ := gv_65 (d := dd + 20) (by omega) I2 I3 I4 F3 F4 ZX4_ Hc Hm YX8_
        have O40 := ax_o I2 (c := 40) (k := 11) (by decide +kernel)
        have O78 := ax_o I3 (c := 78) (k := 13) (by decide +kernel)
        have z3 : ∀ j, h3.2.2.2 0 j = h2.2.2.2 0 j := lw_frA F3 I2.lo (by decide) (by decide +kernel)
        have l3 : (h3.2.2.1 0).2.2 = L := by rw [F3.sh 0 (Nat.lt_of_lt_of_le (by decide) I2.lo), sl]
        have l4 : (h4.2.2.1 0).2.2 = L := by rw [F4.sh 0 (Nat.lt_of_lt_of_le (by decide) I3.lo), l3]
        have T4 := lw_TT I2 I3 F3 F4 (by decide +kernel) TQ T2
        obtain ⟨x, ev, fx⟩ := lw_loop hL k (i + Int32.ofInt 6) h4 (dd + 20 + 1) (by omega) I4 l4 (by omega) (by omega) (by omega) T4 ZX0_ ZX1_ ZX2_ ZX3_ ZX4_ ZX5_ ZX6_ ZX7_ ZX8_ ZX9_ (by omega) (by omega)
        exact ⟨x, sp_10 O40 O78 Hc Hm (lw_rd I2 sl (k := 1) i0 i1 (by decide) c6 y1) (lw_rd I2 sl (k := 2) i0 i1 (by decide) c6 y2) (lw_rd I2 sl (k := 3) i0 i1 (by decide) c6 y3) (lw_rd I3 l3 (k := 1) i0 i1 (by decide) c6 (by rw [z3, y1])) (lw_rd I3 l3 (k := 2) i0 i1 (by decide) c6 (by rw [z3, y2])) (lw_rd I3 l3 (k := 3) i0 i1 (by decide) c6 (by rw [z3, y3])) ev, fx⟩) NX11
      have NX9 := cq_nxo_ok (y0 := 0) (pc0 := 487) (chk := lw_chkE) (m := lw_m) (h0 := h) (ρ0 := ρ) (n0 := 11) (Fin := lw_Fn) (fun Z ρ1 ls st h2 d2 a hn hc R hd2 => by
        obtain ⟨rfl, rfl, I2, F, sl, T2, A1, A2, hd3⟩ := HK Z ρ1 ls st h2 d2 a hc R hd2
        have YX0_ := rT_fr I F lw_mX_rT X0_
        have YX1_ := rp_Pfr I F lw_mX_rp_P X1_
        have YX2_ := rp_Cfr I F lw_mX_rp_C X2_
        have YX3_ := rL_fr I F lw_mX_rL X3_
        have YX4_ := rbV_fr I F lw_mX_rbV X4_
        have YX5_ := rD_fr I F lw_mX_rD X5_
        have YX6_ := rB_fr I F lw_mX_rB X6_
        have YX7_ := rQ_fr I F lw_mX_rQ X7_
        have YX8_ := rY_fr I I2 F (Nat.le_antisymm A1 F.nx) lw_mX_rY X8_
        have YX9_ := rG_fr I F lw_mX_rG X9_
        have sv2 : ∀ k : Nat, k < 6 → ∃ v : Int32, h2.2.2.2 0 (i.toInt.toNat + k) = .int v := fun k hk => I2.sc.2.2.2 (i.toInt.toNat + k) (by rw [sl]; omega)
        obtain ⟨w1, y1⟩ := sv2 1 (by decide)
        obtain ⟨w2, y2⟩ := sv2 2 (by decide)
        obtain ⟨w3, y3⟩ := sv2 3 (by decide)
        obtain ⟨dd, rfl⟩ : ∃ dd, d2 = dd + 20 + 1 := ⟨d2 - 21, by omega⟩
        obtain ⟨r, r2, h3, h4, Hc, Hm, I3, I4, F3, F4, TQ, B1, B2⟩ := sg_51 (d := dd) I2 w1 w2 w3
        have ZX0_ := rT_fr I3 F4 (by decide +kernel) (rT_fr I2 F3 (by decide +kernel) YX0_)
        have ZX1_ := rp_Pfr I3 F4 (by decide +kernel) (rp_Pfr I2 F3 (by decide +kernel) YX1_)
        have ZX2_ := rp_Cfr I3 F4 (by decide +kernel) (rp_Cfr I2 F3 (by decide +kernel) YX2_)
        have ZX3_ := rL_fr I3 F4 (by decide +kernel) (rL_fr I2 F3 (by decide +kernel) YX3_)
        have ZX4_ := rbV_fr I3 F4 (by decide +kernel) (rbV_fr I2 F3 (by decide +kernel) YX4_)
        have ZX5_ := rD_fr I3 F4 (by decide +kernel) (rD_fr I2 F3 (by decide +kernel) YX5_)
        have ZX6_ := rB_fr I3 F4 (by decide +kernel) (rB_fr I2 F3 (by decide +kernel) YX6_)
        have ZX7_ := rQ_fr I3 F4 (by decide +kernel) (rQ_fr I2 F3 (by decide +kernel) YX7_)
        have ZX9_ := rG_fr I3 F4 (by decide +kernel) (rG_fr I2 F3 (by decide +kernel) YX9_)
        have ZX8_ := gv_51 (d := dd + 20) (by omega) I2 I3 I4 F3 F4 ZX4_ Hc Hm YX8_
        have O40 := ax_o I2 (c := 40) (k := 11) (by decide +kernel)
        have O78 := ax_o I3 (c := 78) (k := 13) (by decide +kernel)
        have z3 : ∀ j, h3.2.2.2 0 j = h2.2.2.2 0 j := lw_frA F3 I2.lo (by decide) (by decide +kernel)
        have l3 : (h3.2.2.1 0).2.2 = L := by rw [F3.sh 0 (Nat.lt_of_lt_of_le (by decide) I2.lo), sl]
        have l4 : (h4.2.2.1 0).2.2 = L := by rw [F4.sh 0 (Nat.lt_of_lt_of_le (by decide) I3.lo), l3]
        have T4 := lw_TT I2 I3 F3 F4 (by decide +kernel) TQ T2
        obtain ⟨x, ev, fx⟩ := lw_loop hL k (i + Int32.ofInt 6) h4 (dd + 20 + 1) (by omega) I4 l4 (by omega) (by omega) (by omega) T4 ZX0_ ZX1_ ZX2_ ZX3_ ZX4_ ZX5_ ZX6_ ZX7_ ZX8_ ZX9_ (by omega) (by omega)
        exact ⟨x, sp_9 O40 O78 Hc Hm (lw_rd I2 sl (k := 1) i0 i1 (by decide) c6 y1) (lw_rd I2 sl (k := 2) i0 i1 (by decide) c6 y2) (lw_rd I2 sl (k := 3) i0 i1 (by decide) c6 y3) (lw_rd I3 l3 (k := 1) i0 i1 (by decide) c6 (by rw [z3, y1])) (lw_rd I3 l3 (k := 2) i0 i1 (by decide) c6 (by rw [z3, y2])) (lw_rd I3 l3 (k := 3) i0 i1 (by decide) c6 (by rw [z3, y3])) ev, fx⟩) NX10
      have NX25 := cq_nxo_ok (y0 := 0) (pc0 := 995) (chk := lw_chkE) (m := lw_m) (h0 := h) (ρ0 := ρ) (n0 := 11) (Fin := lw_Fn) (fun Z ρ1 ls st h2 d2 a hn hc R hd2 => by
        obtain ⟨rfl, rfl, I2, F, sl, T2, A1, A2, hd3⟩ := HK Z ρ1 ls st h2 d2 a hc R hd2
        have YX0_ := rT_fr I F lw_mX_rT X0_
        have YX1_ := rp_Pfr I F lw_mX_rp_P X1_
        have YX2_ := rp_Cfr I F lw_mX_rp_C X2_
        have YX3_ := rL_fr I F lw_mX_rL X3_
        have YX4_ := rbV_fr I F lw_mX_rbV X4_
        have YX5_ := rD_fr I F lw_mX_rD X5_
        have YX6_ := rB_fr I F lw_mX_rB X6_
        have YX7_ := rQ_fr I F lw_mX_rQ X7_
        have YX8_ := rY_fr I I2 F (Nat.le_antisymm A1 F.nx) lw_mX_rY X8_
        have YX9_ := rG_fr I F lw_mX_rG X9_
        have sv2 : ∀ k : Nat, k < 6 → ∃ v : Int32, h2.2.2.2 0 (i.toInt.toNat + k) = .int v := fun k hk => I2.sc.2.2.2 (i.toInt.toNat + k) (by rw [sl]; omega)
        obtain ⟨w1, y1⟩ := sv2 1 (by decide)
        obtain ⟨dd, rfl⟩ : ∃ dd, d2 = dd + 20 + 1 := ⟨d2 - 21, by omega⟩
        obtain ⟨r, h3, h4, Hc, Hm, I3, I4, F3, F4, TQ, -, B1, B2⟩ := op_ord (d := dd) I2 YX0_ YX1_ YX2_ YX3_ YX4_ YX5_ YX6_ YX7_ YX8_ YX9_ (T2 (40, 9, 78, 15) (by decide)) w1
        have ZX0_ := rT_fr I3 F4 (by decide +kernel) (rT_fr I2 F3 (by decide +kernel) YX0_)
        have ZX1_ := rp_Pfr I3 F4 (by decide +kernel) (rp_Pfr I2 F3 (by decide +kernel) YX1_)
        have ZX2_ := rp_Cfr I3 F4 (by decide +kernel) (rp_Cfr I2 F3 (by decide +kernel) YX2_)
        have ZX3_ := rL_fr I3 F4 (by decide +kernel) (rL_fr I2 F3 (by decide +kernel) YX3_)
        have ZX4_ := rbV_fr I3 F4 (by decide +kernel) (rbV_fr I2 F3 (by decide +kernel) YX4_)
        have ZX5_ := rD_fr I3 F4 (by decide +kernel) (rD_fr I2 F3 (by decide +kernel) YX5_)
        have ZX6_ := rB_fr I3 F4 (by decide +kernel) (rB_fr I2 F3 (by decide +kernel) YX6_)
        have ZX7_ := rQ_fr I3 F4 (by decide +kernel) (rQ_fr I2 F3 (by decide +kernel) YX7_)
        have ZX9_ := rG_fr I3 F4 (by decide +kernel) (rG_fr I2 F3 (by decide +kernel) YX9_)
        have ZX8_ := gv_118 (d := dd + 20) (by omega) I2 I3 I4 F3 F4 ZX4_ Hc Hm YX8_
        have O40 := ax_o I2 (c := 40) (k := 11) (by decide +kernel)
        have O78 := ax_o I3 (c := 78) (k := 13) (by decide +kernel)
        have z3 : ∀ j, h3.2.2.2 0 j = h2.2.2.2 0 j := lw_frA F3 I2.lo (by decide) (by decide +kernel)
        have l3 : (h3.2.2.1 0).2.2 = L := by rw [F3.sh 0 (Nat.lt_of_lt_of_le (by decide) I2.lo), sl]
        have l4 : (h4.2.2.1 0).2.2 = L := by rw [F4.sh 0 (Nat.lt_of_lt_of_le (by decide) I3.lo), l3]
        have T4 := lw_TT I2 I3 F3 F4 (by decide +kernel) TQ T2
        obtain ⟨x, ev, fx⟩ := lw_loop hL k (i + Int32.ofInt 6) h4 (dd + 20 + 1) (by omega) I4 l4 (by omega) (by omega) (by omega) T4 ZX0_ ZX1_ ZX2_ ZX3_ ZX4_ ZX5_ ZX6_ ZX7_ ZX8_ ZX9_ (by omega) (by omega)
        exact ⟨x, sp_25 O40 O78 Hc Hm (lw_rd I2 sl (k := 1) i0 i1 (by decide) c6 y1) (lw_rd I3 l3 (k := 1) i0 i1 (by decide) c6 (by rw [z3, y1])) ev, fx⟩) NX9
      have NX8 := cq_nxo_ok (y0 := 0) (pc0 := 464) (chk := lw_chkE) (m := lw_m) (h0 := h) (ρ0 := ρ) (n0 := 11) (Fin := lw_Fn) (fun Z ρ1 ls st h2 d2 a hn hc R hd2 => by
        obtain ⟨rfl, rfl, I2, F, sl, T2, A1, A2, hd3⟩ := HK Z ρ1 ls st h2 d2 a hc R hd2
        have YX0_ := rT_fr I F lw_mX_rT X0_
        have YX1_ := rp_Pfr I F lw_mX_rp_P X1_
        have YX2_ := rp_Cfr I F lw_mX_rp_C X2_
        have YX3_ := rL_fr I F lw_mX_rL X3_
        have YX4_ := rbV_fr I F lw_mX_rbV X4_
        have YX5_ := rD_fr I F lw_mX_rD X5_
        have YX6_ := rB_fr I F lw_mX_rB X6_
        have YX7_ := rQ_fr I F lw_mX_rQ X7_
        have YX8_ := rY_fr I I2 F (Nat.le_antisymm A1 F.nx) lw_mX_rY X8_
        have YX9_ := rG_fr I F lw_mX_rG X9_
        have sv2 : ∀ k : Nat, k < 6 → ∃ v : Int32, h2.2.2.2 0 (i.toInt.toNat + k) = .int v := fun k hk => I2.sc.2.2.2 (i.toInt.toNat + k) (by rw [sl]; omega)
        obtain ⟨w1, y1⟩ := sv2 1 (by decide)
        obtain ⟨dd, rfl⟩ : ∃ dd, d2 = dd + 20 + 1 := ⟨d2 - 21, by omega⟩
        obtain ⟨r, h3, h4, Hc, Hm, I3, I4, F3, F4, TQ, ZX7_, -, ZCrY, B1, B2⟩ := op_ed2 (d := dd + 10) I2 YX0_ YX1_ YX7_ (T2 (41, 1, 78, 2) (by decide)) w1
        have ZX0_ := rT_fr I3 F4 (by decide +kernel) (rT_fr I2 F3 (by decide +kernel) YX0_)
        have ZX1_ := rp_Pfr I3 F4 (by decide +kernel) (rp_Pfr I2 F3 (by decide +kernel) YX1_)
        have ZX2_ := rp_Cfr I3 F4 (by decide +kernel) (rp_Cfr I2 F3 (by decide +kernel) YX2_)
        have ZX3_ := rL_fr I3 F4 (by decide +kernel) (rL_fr I2 F3 (by decide +kernel) YX3_)
        have ZX4_ := rbV_fr I3 F4 (by decide +kernel) (rbV_fr I2 F3 (by decide +kernel) YX4_)
        have ZX5_ := rD_fr I3 F4 (by decide +kernel) (rD_fr I2 F3 (by decide +kernel) YX5_)
        have ZX6_ := rB_fr I3 F4 (by decide +kernel) (rB_fr I2 F3 (by decide +kernel) YX6_)
        have ZX9_ := rG_fr I3 F4 (by decide +kernel) (rG_fr I2 F3 (by decide +kernel) YX9_)
        have ZX8_ := gv_43 I2 I3 F3 F4 ZCrY YX4_ YX8_
        have O40 := ax_o I2 (c := 40) (k := 11) (by decide +kernel)
        have O78 := ax_o I3 (c := 78) (k := 13) (by decide +kernel)
        have z3 : ∀ j, h3.2.2.2 0 j = h2.2.2.2 0 j := lw_frA F3 I2.lo (by decide) (by decide +kernel)
        have l3 : (h3.2.2.1 0).2.2 = L := by rw [F3.sh 0 (Nat.lt_of_lt_of_le (by decide) I2.lo), sl]
        have l4 : (h4.2.2.1 0).2.2 = L := by rw [F4.sh 0 (Nat.lt_of_lt_of_le (by decide) I3.lo), l3]
        have T4 := lw_TT I2 I3 F3 F4 (by decide +kernel) TQ T2
        obtain ⟨x, ev, fx⟩ := lw_loop hL k (i + Int32.ofInt 6) h4 (dd + 20 + 1) (by omega) I4 l4 (by omega) (by omega) (by omega) T4 ZX0_ ZX1_ ZX2_ ZX3_ ZX4_ ZX5_ ZX6_ ZX7_ ZX8_ ZX9_ (by omega) (by omega)
        exact ⟨x, sp_8 O40 O78 Hc Hm (lw_rd I2 sl (k := 1) i0 i1 (by decide) c6 y1) (lw_rd I3 l3 (k := 1) i0 i1 (by decide) c6 (by rw [z3, y1])) ev, fx⟩) NX25
      have NX19 := cq_nxo_ok (y0 := 0) (pc0 := 857) (chk := lw_chkE) (m := lw_m) (h0 := h) (ρ0 := ρ) (n0 := 11) (Fin := lw_Fn) (fun Z ρ1 ls st h2 d2 a hn hc R hd2 => by
        obtain ⟨rfl, rfl, I2, F, sl, T2, A1, A2, hd3⟩ := HK Z ρ1 ls st h2 d2 a hc R hd2
        have YX0_ := rT_fr I F lw_mX_rT X0_
        have YX1_ := rp_Pfr I F lw_mX_rp_P X1_
        have YX2_ := rp_Cfr I F lw_mX_rp_C X2_
        have YX3_ := rL_fr I F lw_mX_rL X3_
        have YX4_ := rbV_fr I F lw_mX_rbV X4_
        have YX5_ := rD_fr I F lw_mX_rD X5_
        have YX6_ := rB_fr I F lw_mX_rB X6_
        have YX7_ := rQ_fr I F lw_mX_rQ X7_
        have YX8_ := rY_fr I I2 F (Nat.le_antisymm A1 F.nx) lw_mX_rY X8_
        have YX9_ := rG_fr I F lw_mX_rG X9_
        have sv2 : ∀ k : Nat, k < 6 → ∃ v : Int32, h2.2.2.2 0 (i.toInt.toNat + k) = .int v := fun k hk => I2.sc.2.2.2 (i.toInt.toNat + k) (by rw [sl]; omega)
        obtain ⟨w1, y1⟩ := sv2 1 (by decide)
        obtain ⟨w2, y2⟩ := sv2 2 (by decide)
        obtain ⟨dd, rfl⟩ : ∃ dd, d2 = dd + 20 + 1 := ⟨d2 - 21, by omega⟩
        obtain ⟨r, h3, h4, Hc, Hm, I3, I4, F3, F4, TQ, ZX6_, B1, B2⟩ := op_boo (d := dd + 10) I2 YX6_ w1 w2
        have ZX0_ := rT_fr I3 F4 (by decide +kernel) (rT_fr I2 F3 (by decide +kernel) YX0_)
        have ZX1_ := rp_Pfr I3 F4 (by decide +kernel) (rp_Pfr I2 F3 (by decide +kernel) YX1_)
        have ZX2_ := rp_Cfr I3 F4 (by decide +kernel) (rp_Cfr I2 F3 (by decide +kernel) YX2_)
        have ZX3_ := rL_fr I3 F4 (by decide +kernel) (rL_fr I2 F3 (by decide +kernel) YX3_)
        have ZX4_ := rbV_fr I3 F4 (by decide +kernel) (rbV_fr I2 F3 (by decide +kernel) YX4_)
        have ZX5_ := rD_fr I3 F4 (by decide +kernel) (rD_fr I2 F3 (by decide +kernel) YX5_)
        have ZX7_ := rQ_fr I3 F4 (by decide +kernel) (rQ_fr I2 F3 (by decide +kernel) YX7_)
        have ZX9_ := rG_fr I3 F4 (by decide +kernel) (rG_fr I2 F3 (by decide +kernel) YX9_)
        have ZX8_ := gv_99 (d := dd + 20) (by omega) I2 I3 I4 F3 F4 ZX4_ Hc Hm YX8_
        have O40 := ax_o I2 (c := 40) (k := 11) (by decide +kernel)
        have O78 := ax_o I3 (c := 78) (k := 13) (by decide +kernel)
        have z3 : ∀ j, h3.2.2.2 0 j = h2.2.2.2 0 j := lw_frA F3 I2.lo (by decide) (by decide +kernel)
        have l3 : (h3.2.2.1 0).2.2 = L := by rw [F3.sh 0 (Nat.lt_of_lt_of_le (by decide) I2.lo), sl]
        have l4 : (h4.2.2.1 0).2.2 = L := by rw [F4.sh 0 (Nat.lt_of_lt_of_le (by decide) I3.lo), l3]
        have T4 := lw_TT I2 I3 F3 F4 (by decide +kernel) TQ T2
        obtain ⟨x, ev, fx⟩ := lw_loop hL k (i + Int32.ofInt 6) h4 (dd + 20 + 1) (by omega) I4 l4 (by omega) (by omega) (by omega) T4 ZX0_ ZX1_ ZX2_ ZX3_ ZX4_ ZX5_ ZX6_ ZX7_ ZX8_ ZX9_ (by omega) (by omega)
        exact ⟨x, sp_19 O40 O78 Hc Hm (lw_rd I2 sl (k := 1) i0 i1 (by decide) c6 y1) (lw_rd I2 sl (k := 2) i0 i1 (by decide) c6 y2) (lw_rd I3 l3 (k := 1) i0 i1 (by decide) c6 (by rw [z3, y1])) (lw_rd I3 l3 (k := 2) i0 i1 (by decide) c6 (by rw [z3, y2])) ev, fx⟩) NX8
      have NX16 := cq_nxo_ok (y0 := 0) (pc0 := 738) (chk := lw_chkE) (m := lw_m) (h0 := h) (ρ0 := ρ) (n0 := 11) (Fin := lw_Fn) (fun Z ρ1 ls st h2 d2 a hn hc R hd2 => by
        obtain ⟨rfl, rfl, I2, F, sl, T2, A1, A2, hd3⟩ := HK Z ρ1 ls st h2 d2 a hc R hd2
        have YX0_ := rT_fr I F lw_mX_rT X0_
        have YX1_ := rp_Pfr I F lw_mX_rp_P X1_
        have YX2_ := rp_Cfr I F lw_mX_rp_C X2_
        have YX3_ := rL_fr I F lw_mX_rL X3_
        have YX4_ := rbV_fr I F lw_mX_rbV X4_
        have YX5_ := rD_fr I F lw_mX_rD X5_
        have YX6_ := rB_fr I F lw_mX_rB X6_
        have YX7_ := rQ_fr I F lw_mX_rQ X7_
        have YX8_ := rY_fr I I2 F (Nat.le_antisymm A1 F.nx) lw_mX_rY X8_
        have YX9_ := rG_fr I F lw_mX_rG X9_
        have sv2 : ∀ k : Nat, k < 6 → ∃ v : Int32, h2.2.2.2 0 (i.toInt.toNat + k) = .int v := fun k hk => I2.sc.2.2.2 (i.toInt.toNat + k) (by rw [sl]; omega)
        obtain ⟨w1, y1⟩ := sv2 1 (by decide)
        obtain ⟨w2, y2⟩ := sv2 2 (by decide)
        obtain ⟨dd, rfl⟩ : ∃ dd, d2 = dd + 20 + 1 := ⟨d2 - 21, by omega⟩
        obtain ⟨r, h3, h4, Hc, Hm, I3, I4, F3, F4, TQ, ZX5_, B1, B2⟩ := op_ded (d := dd + 10) I2 YX5_ (T2 (40, 9, 78, 15) (by decide)) w1 w2
        have ZX0_ := rT_fr I3 F4 (by decide +kernel) (rT_fr I2 F3 (by decide +kernel) YX0_)
        have ZX1_ := rp_Pfr I3 F4 (by decide +kernel) (rp_Pfr I2 F3 (by decide +kernel) YX1_)
        have ZX2_ := rp_Cfr I3 F4 (by decide +kernel) (rp_Cfr I2 F3 (by decide +kernel) YX2_)
        have ZX3_ := rL_fr I3 F4 (by decide +kernel) (rL_fr I2 F3 (by decide +kernel) YX3_)
        have ZX4_ := rbV_fr I3 F4 (by decide +kernel) (rbV_fr I2 F3 (by decide +kernel) YX4_)
        have ZX6_ := rB_fr I3 F4 (by decide +kernel) (rB_fr I2 F3 (by decide +kernel) YX6_)
        have ZX7_ := rQ_fr I3 F4 (by decide +kernel) (rQ_fr I2 F3 (by decide +kernel) YX7_)
        have ZX9_ := rG_fr I3 F4 (by decide +kernel) (rG_fr I2 F3 (by decide +kernel) YX9_)
        have ZX8_ := gv_90 (d := dd + 20) (by omega) I2 I3 I4 F3 F4 ZX4_ Hc Hm YX8_
        have O40 := ax_o I2 (c := 40) (k := 11) (by decide +kernel)
        have O78 := ax_o I3 (c := 78) (k := 13) (by decide +kernel)
        have z3 : ∀ j, h3.2.2.2 0 j = h2.2.2.2 0 j := lw_frA F3 I2.lo (by decide) (by decide +kernel)
        have l3 : (h3.2.2.1 0).2.2 = L := by rw [F3.sh 0 (Nat.lt_of_lt_of_le (by decide) I2.lo), sl]
        have l4 : (h4.2.2.1 0).2.2 = L := by rw [F4.sh 0 (Nat.lt_of_lt_of_le (by decide) I3.lo), l3]
        have T4 := lw_TT I2 I3 F3 F4 (by decide +kernel) TQ T2
        obtain ⟨x, ev, fx⟩ := lw_loop hL k (i + Int32.ofInt 6) h4 (dd + 20 + 1) (by omega) I4 l4 (by omega) (by omega) (by omega) T4 ZX0_ ZX1_ ZX2_ ZX3_ ZX4_ ZX5_ ZX6_ ZX7_ ZX8_ ZX9_ (by omega) (by omega)
        exact ⟨x, sp_16 O40 O78 Hc Hm (lw_rd I2 sl (k := 1) i0 i1 (by decide) c6 y1) (lw_rd I2 sl (k := 2) i0 i1 (by decide) c6 y2) (lw_rd I3 l3 (k := 1) i0 i1 (by decide) c6 (by rw [z3, y1])) (lw_rd I3 l3 (k := 2) i0 i1 (by decide) c6 (by rw [z3, y2])) ev, fx⟩) NX19
      have NX15 := cq_nxo_ok (y0 := 0) (pc0 := 705) (chk := lw_chkE) (m := lw_m) (h0 := h) (ρ0 := ρ) (n0 := 11) (Fin := lw_Fn) (fun Z ρ1 ls st h2 d2 a hn hc R hd2 => by
        obtain ⟨rfl, rfl, I2, F, sl, T2, A1, A2, hd3⟩ := HK Z ρ1 ls st h2 d2 a hc R hd2
        have YX0_ := rT_fr I F lw_mX_rT X0_
        have YX1_ := rp_Pfr I F lw_mX_rp_P X1_
        have YX2_ := rp_Cfr I F lw_mX_rp_C X2_
        have YX3_ := rL_fr I F lw_mX_rL X3_
        have YX4_ := rbV_fr I F lw_mX_rbV X4_
        have YX5_ := rD_fr I F lw_mX_rD X5_
        have YX6_ := rB_fr I F lw_mX_rB X6_
        have YX7_ := rQ_fr I F lw_mX_rQ X7_
        have YX8_ := rY_fr I I2 F (Nat.le_antisymm A1 F.nx) lw_mX_rY X8_
        have YX9_ := rG_fr I F lw_mX_rG X9_
        have sv2 : ∀ k : Nat, k < 6 → ∃ v : Int32, h2.2.2.2 0 (i.toInt.toNat + k) = .int v := fun k hk => I2.sc.2.2.2 (i.toInt.toNat + k) (by rw [sl]; omega)
        obtain ⟨w1, y1⟩ := sv2 1 (by decide)
        obtain ⟨w2, y2⟩ := sv2 2 (by decide)
        obtain ⟨dd, rfl⟩ : ∃ dd, d2 = dd + 20 + 1 := ⟨d2 - 21, by omega⟩
        obtain ⟨r, h3, h4, Hc, Hm, I3, I4, F3, F4, TQ, ZX3_, B1, B2⟩ := op_gon (d := dd + 10) I2 YX3_ (T2 (40, 9, 78, 15) (by decide)) w1 w2
        have ZX0_ := rT_fr I3 F4 (by decide +kernel) (rT_fr I2 F3 (by decide +kernel) YX0_)
        have ZX1_ := rp_Pfr I3 F4 (by decide +kernel) (rp_Pfr I2 F3 (by decide +kernel) YX1_)
        have ZX2_ := rp_Cfr I3 F4 (by decide +kernel) (rp_Cfr I2 F3 (by decide +kernel) YX2_)
        have ZX4_ := rbV_fr I3 F4 (by decide +kernel) (rbV_fr I2 F3 (by decide +kernel) YX4_)
        have ZX5_ := rD_fr I3 F4 (by decide +kernel) (rD_fr I2 F3 (by decide +kernel) YX5_)
        have ZX6_ := rB_fr I3 F4 (by decide +kernel) (rB_fr I2 F3 (by decide +kernel) YX6_)
        have ZX7_ := rQ_fr I3 F4 (by decide +kernel) (rQ_fr I2 F3 (by decide +kernel) YX7_)
        have ZX9_ := rG_fr I3 F4 (by decide +kernel) (rG_fr I2 F3 (by decide +kernel) YX9_)
        have ZX8_ := gv_89 (d := dd + 20) (by omega) I2 I3 I4 F3 F4 ZX4_ Hc Hm YX8_
        have O40 := ax_o I2 (c := 40) (k := 11) (by decide +kernel)
        have O78 := ax_o I3 (c := 78) (k := 13) (by decide +kernel)
        have z3 : ∀ j, h3.2.2.2 0 j = h2.2.2.2 0 j := lw_frA F3 I2.lo (by decide) (by decide +kernel)
        have l3 : (h3.2.2.1 0).2.2 = L := by rw [F3.sh 0 (Nat.lt_of_lt_of_le (by decide) I2.lo), sl]
        have l4 : (h4.2.2.1 0).2.2 = L := by rw [F4.sh 0 (Nat.lt_of_lt_of_le (by decide) I3.lo), l3]
        have T4 := lw_TT I2 I3 F3 F4 (by decide +kernel) TQ T2
        obtain ⟨x, ev, fx⟩ := lw_loop hL k (i + Int32.ofInt 6) h4 (dd + 20 + 1) (by omega) I4 l4 (by omega) (by omega) (by omega) T4 ZX0_ ZX1_ ZX2_ ZX3_ ZX4_ ZX5_ ZX6_ ZX7_ ZX8_ ZX9_ (by omega) (by omega)
        exact ⟨x, sp_15 O40 O78 Hc Hm (lw_rd I2 sl (k := 1) i0 i1 (by decide) c6 y1) (lw_rd I2 sl (k := 2) i0 i1 (by decide) c6 y2) (lw_rd I3 l3 (k := 1) i0 i1 (by decide) c6 (by rw [z3, y1])) (lw_rd I3 l3 (k := 2) i0 i1 (by decide) c6 (by rw [z3, y2])) ev, fx⟩) NX16
      have NX13 := cq_nxo_ok (y0 := 0) (pc0 := 649) (chk := lw_chkE) (m := lw_m) (h0 := h) (ρ0 := ρ) (n0 := 11) (Fin := lw_Fn) (fun Z ρ1 ls st h2 d2 a hn hc R hd2 => by
        obtain ⟨rfl, rfl, I2, F, sl, T2, A1, A2, hd3⟩ := HK Z ρ1 ls st h2 d2 a hc R hd2
        have YX0_ := rT_fr I F lw_mX_rT X0_
        have YX1_ := rp_Pfr I F lw_mX_rp_P X1_
        have YX2_ := rp_Cfr I F lw_mX_rp_C X2_
        have YX3_ := rL_fr I F lw_mX_rL X3_
        have YX4_ := rbV_fr I F lw_mX_rbV X4_
        have YX5_ := rD_fr I F lw_mX_rD X5_
        have YX6_ := rB_fr I F lw_mX_rB X6_
        have YX7_ := rQ_fr I F lw_mX_rQ X7_
        have YX8_ := rY_fr I I2 F (Nat.le_antisymm A1 F.nx) lw_mX_rY X8_
        have YX9_ := rG_fr I F lw_mX_rG X9_
        have sv2 : ∀ k : Nat, k < 6 → ∃ v : Int32, h2.2.2.2 0 (i.toInt.toNat + k) = .int v := fun k hk => I2.sc.2.2.2 (i.toInt.toNat + k) (by rw [sl]; omega)
        obtain ⟨w1, y1⟩ := sv2 1 (by decide)
        obtain ⟨dd, rfl⟩ : ∃ dd, d2 = dd + 20 + 1 := ⟨d2 - 21, by omega⟩
        obtain ⟨r, h3, h4, Hc, Hm, I3, I4, F3, F4, TQ, ZX3_, -, B1, B2⟩ := op_lea (d := dd + 10) I2 YX0_ YX1_ YX3_ (T2 (41, 1, 78, 2) (by decide)) (T2 (40, 9, 78, 15) (by decide)) w1
        have ZX0_ := rT_fr I3 F4 (by decide +kernel) (rT_fr I2 F3 (by decide +kernel) YX0_)
        have ZX1_ := rp_Pfr I3 F4 (by decide +kernel) (rp_Pfr I2 F3 (by decide +kernel) YX1_)
        have ZX2_ := rp_Cfr I3 F4 (by decide +kernel) (rp_Cfr I2 F3 (by decide +kernel) YX2_)
        have ZX4_ := rbV_fr I3 F4 (by decide +kernel) (rbV_fr I2 F3 (by decide +kernel) YX4_)
        have ZX5_ := rD_fr I3 F4 (by decide +kernel) (rD_fr I2 F3 (by decide +kernel) YX5_)
        have ZX6_ := rB_fr I3 F4 (by decide +kernel) (rB_fr I2 F3 (by decide +kernel) YX6_)
        have ZX7_ := rQ_fr I3 F4 (by decide +kernel) (rQ_fr I2 F3 (by decide +kernel) YX7_)
        have ZX9_ := rG_fr I3 F4 (by decide +kernel) (rG_fr I2 F3 (by decide +kernel) YX9_)
        have ZX8_ := gv_74 (d := dd + 20) (by omega) I2 I3 I4 F3 F4 ZX4_ Hc Hm YX8_
        have O40 := ax_o I2 (c := 40) (k := 11) (by decide +kernel)
        have O78 := ax_o I3 (c := 78) (k := 13) (by decide +kernel)
        have z3 : ∀ j, h3.2.2.2 0 j = h2.2.2.2 0 j := lw_frA F3 I2.lo (by decide) (by decide +kernel)
        have l3 : (h3.2.2.1 0).2.2 = L := by rw [F3.sh 0 (Nat.lt_of_lt_of_le (by decide) I2.lo), sl]
        have l4 : (h4.2.2.1 0).2.2 = L := by rw [F4.sh 0 (Nat.lt_of_lt_of_le (by decide) I3.lo), l3]
        have T4 := lw_TT I2 I3 F3 F4 (by decide +kernel) TQ T2
        obtain ⟨x, ev, fx⟩ := lw_loop hL k (i + Int32.ofInt 6) h4 (dd + 20 + 1) (by omega) I4 l4 (by omega) (by omega) (by omega) T4 ZX0_ ZX1_ ZX2_ ZX3_ ZX4_ ZX5_ ZX6_ ZX7_ ZX8_ ZX9_ (by omega) (by omega)
        exact ⟨x, sp_13 O40 O78 Hc Hm (lw_rd I2 sl (k := 1) i0 i1 (by decide) c6 y1) (lw_rd I3 l3 (k := 1) i0 i1 (by decide) c6 (by rw [z3, y1])) ev, fx⟩) NX15
      have NX20 := cq_nxo_ok (y0 := 0) (pc0 := 890) (chk := lw_chkE) (m := lw_m) (h0 := h) (ρ0 := ρ) (n0 := 11) (Fin := lw_Fn) (fun Z ρ1 ls st h2 d2 a hn hc R hd2 => by
        obtain ⟨rfl, rfl, I2, F, sl, T2, A1, A2, hd3⟩ := HK Z ρ1 ls st h2 d2 a hc R hd2
        have YX0_ := rT_fr I F lw_mX_rT X0_
        have YX1_ := rp_Pfr I F lw_mX_rp_P X1_
        have YX2_ := rp_Cfr I F lw_mX_rp_C X2_
        have YX3_ := rL_fr I F lw_mX_rL X3_
        have YX4_ := rbV_fr I F lw_mX_rbV X4_
        have YX5_ := rD_fr I F lw_mX_rD X5_
        have YX6_ := rB_fr I F lw_mX_rB X6_
        have YX7_ := rQ_fr I F lw_mX_rQ X7_
        have YX8_ := rY_fr I I2 F (Nat.le_antisymm A1 F.nx) lw_mX_rY X8_
        have YX9_ := rG_fr I F lw_mX_rG X9_
        have sv2 : ∀ k : Nat, k < 6 → ∃ v : Int32, h2.2.2.2 0 (i.toInt.toNat + k) = .int v := fun k hk => I2.sc.2.2.2 (i.toInt.toNat + k) (by rw [sl]; omega)
        obtain ⟨w1, y1⟩ := sv2 1 (by decide)
        obtain ⟨dd, rfl⟩ : ∃ dd, d2 = dd + 20 + 1 := ⟨d2 - 21, by omega⟩
        obtain ⟨r, h3, h4, Hc, Hm, I3, I4, F3, F4, TQ, ZX1_, ZX2_, B1, B2⟩ := oq_can (d := dd + 12) I2 YX1_ YX2_ w1
        have ZX0_ := rT_fr I3 F4 (by decide +kernel) (rT_fr I2 F3 (by decide +kernel) YX0_)
        have ZX3_ := rL_fr I3 F4 (by decide +kernel) (rL_fr I2 F3 (by decide +kernel) YX3_)
        have ZX4_ := rbV_fr I3 F4 (by decide +kernel) (rbV_fr I2 F3 (by decide +kernel) YX4_)
        have ZX5_ := rD_fr I3 F4 (by decide +kernel) (rD_fr I2 F3 (by decide +kernel) YX5_)
        have ZX6_ := rB_fr I3 F4 (by decide +kernel) (rB_fr I2 F3 (by decide +kernel) YX6_)
        have ZX7_ := rQ_fr I3 F4 (by decide +kernel) (rQ_fr I2 F3 (by decide +kernel) YX7_)
        have ZX9_ := rG_fr I3 F4 (by decide +kernel) (rG_ca (d := dd + 18) I2 YX1_ YX2_ Hc YX9_)
        have ZX8_ := gv_101 (d := dd + 20) (by omega) I2 I3 I4 F3 F4 ZX4_ Hc Hm YX8_
        have O40 := ax_o I2 (c := 40) (k := 11) (by decide +kernel)
        have O78 := ax_o I3 (c := 78) (k := 13) (by decide +kernel)
        have z3 : ∀ j, h3.2.2.2 0 j = h2.2.2.2 0 j := lw_frA F3 I2.lo (by decide) (by decide +kernel)
        have l3 : (h3.2.2.1 0).2.2 = L := by rw [F3.sh 0 (Nat.lt_of_lt_of_le (by decide) I2.lo), sl]
        have l4 : (h4.2.2.1 0).2.2 = L := by rw [F4.sh 0 (Nat.lt_of_lt_of_le (by decide) I3.lo), l3]
        have T4 := lw_TT I2 I3 F3 F4 (by decide +kernel) TQ T2
        obtain ⟨x, ev, fx⟩ := lw_loop hL k (i + Int32.ofInt 6) h4 (dd + 20 + 1) (by omega) I4 l4 (by omega) (by omega) (by omega) T4 ZX0_ ZX1_ ZX2_ ZX3_ ZX4_ ZX5_ ZX6_ ZX7_ ZX8_ ZX9_ (by omega) (by omega)
        exact ⟨x, sp_20 O40 O78 Hc Hm (lw_rd I2 sl (k := 1) i0 i1 (by decide) c6 y1) (lw_rd I3 l3 (k := 1) i0 i1 (by decide) c6 (by rw [z3, y1])) ev, fx⟩) NX13
      have NX7 := cq_nxo_ok (y0 := 0) (pc0 := 421) (chk := lw_chkE) (m := lw_m) (h0 := h) (ρ0 := ρ) (n0 := 11) (Fin := lw_Fn) (fun Z ρ1 ls st h2 d2 a hn hc R hd2 => by
        obtain ⟨rfl, rfl, I2, F, sl, T2, A1, A2, hd3⟩ := HK Z ρ1 ls st h2 d2 a hc R hd2
        have YX0_ := rT_fr I F lw_mX_rT X0_
        have YX1_ := rp_Pfr I F lw_mX_rp_P X1_
        have YX2_ := rp_Cfr I F lw_mX_rp_C X2_
        have YX3_ := rL_fr I F lw_mX_rL X3_
        have YX4_ := rbV_fr I F lw_mX_rbV X4_
        have YX5_ := rD_fr I F lw_mX_rD X5_
        have YX6_ := rB_fr I F lw_mX_rB X6_
        have YX7_ := rQ_fr I F lw_mX_rQ X7_
        have YX8_ := rY_fr I I2 F (Nat.le_antisymm A1 F.nx) lw_mX_rY X8_
        have YX9_ := rG_fr I F lw_mX_rG X9_
        have sv2 : ∀ k : Nat, k < 6 → ∃ v : Int32, h2.2.2.2 0 (i.toInt.toNat + k) = .int v := fun k hk => I2.sc.2.2.2 (i.toInt.toNat + k) (by rw [sl]; omega)
        obtain ⟨w1, y1⟩ := sv2 1 (by decide)
        obtain ⟨w2, y2⟩ := sv2 2 (by decide)
        obtain ⟨w3, y3⟩ := sv2 3 (by decide)
        obtain ⟨dd, rfl⟩ : ∃ dd, d2 = dd + 20 + 1 := ⟨d2 - 21, by omega⟩
        obtain ⟨r, h3, h4, Hc, Hm, I3, I4, F3, F4, TQ, ZX1_, ZX2_, ZCrQ, B1, B2⟩ := oq_tra (d := dd + 12) I2 YX1_ YX2_ w1 w2 w3
        have ZX0_ := rT_fr I3 F4 (by decide +kernel) (rT_fr I2 F3 (by decide +kernel) YX0_)
        have ZX3_ := rL_fr I3 F4 (by decide +kernel) (rL_fr I2 F3 (by decide +kernel) YX3_)
        have ZX4_ := rbV_fr I3 F4 (by decide +kernel) (rbV_fr I2 F3 (by decide +kernel) YX4_)
        have ZX5_ := rD_fr I3 F4 (by decide +kernel) (rD_fr I2 F3 (by decide +kernel) YX5_)
        have ZX6_ := rB_fr I3 F4 (by decide +kernel) (rB_fr I2 F3 (by decide +kernel) YX6_)
        have ZX9_ := rG_fr I3 F4 (by decide +kernel) (rG_fr I2 F3 (by decide +kernel) YX9_)
        have ZX7_ := ZCrQ YX7_
        have ZX8_ := gv_41 (d := dd + 20) (by omega) I2 I3 I4 F3 F4 ZX4_ Hc Hm YX8_
        have O40 := ax_o I2 (c := 40) (k := 11) (by decide +kernel)
        have O78 := ax_o I3 (c := 78) (k := 13) (by decide +kernel)
        have z3 : ∀ j, h3.2.2.2 0 j = h2.2.2.2 0 j := lw_frA F3 I2.lo (by decide) (by decide +kernel)
        have l3 : (h3.2.2.1 0).2.2 = L := by rw [F3.sh 0 (Nat.lt_of_lt_of_le (by decide) I2.lo), sl]
        have l4 : (h4.2.2.1 0).2.2 = L := by rw [F4.sh 0 (Nat.lt_of_lt_of_le (by decide) I3.lo), l3]
        have T4 := lw_TT I2 I3 F3 F4 (by decide +kernel) TQ T2
        obtain ⟨x, ev, fx⟩ := lw_loop hL k (i + Int32.ofInt 6) h4 (dd + 20 + 1) (by omega) I4 l4 (by omega) (by omega) (by omega) T4 ZX0_ ZX1_ ZX2_ ZX3_ ZX4_ ZX5_ ZX6_ ZX7_ ZX8_ ZX9_ (by omega) (by omega)
        exact ⟨x, sp_7 O40 O78 Hc Hm (lw_rd I2 sl (k := 1) i0 i1 (by decide) c6 y1) (lw_rd I2 sl (k := 2) i0 i1 (by decide) c6 y2) (lw_rd I2 sl (k := 3) i0 i1 (by decide) c6 y3) (lw_rd I3 l3 (k := 1) i0 i1 (by decide) c6 (by rw [z3, y1])) (lw_rd I3 l3 (k := 2) i0 i1 (by decide) c6 (by rw [z3, y2])) (lw_rd I3 l3 (k := 3) i0 i1 (by decide) c6 (by rw [z3, y3])) ev, fx⟩) NX20
      have NX6 := cq_nxo_ok (y0 := 0) (pc0 := 368) (chk := lw_chkE) (m := lw_m) (h0 := h) (ρ0 := ρ) (n0 := 11) (Fin := lw_Fn) (fun Z ρ1 ls st h2 d2 a hn hc R hd2 => by
        obtain ⟨rfl, rfl, I2, F, sl, T2, A1, A2, hd3⟩ := HK Z ρ1 ls st h2 d2 a hc R hd2
        have YX0_ := rT_fr I F lw_mX_rT X0_
        have YX1_ := rp_Pfr I F lw_mX_rp_P X1_
        have YX2_ := rp_Cfr I F lw_mX_rp_C X2_
        have YX3_ := rL_fr I F lw_mX_rL X3_
        have YX4_ := rbV_fr I F lw_mX_rbV X4_
        have YX5_ := rD_fr I F lw_mX_rD X5_
        have YX6_ := rB_fr I F lw_mX_rB X6_
        have YX7_ := rQ_fr I F lw_mX_rQ X7_
        have YX8_ := rY_fr I I2 F (Nat.le_antisymm A1 F.nx) lw_mX_rY X8_
        have YX9_ := rG_fr I F lw_mX_rG X9_
        have sv2 : ∀ k : Nat, k < 6 → ∃ v : Int32, h2.2.2.2 0 (i.toInt.toNat + k) = .int v := fun k hk => I2.sc.2.2.2 (i.toInt.toNat + k) (by rw [sl]; omega)
        obtain ⟨w1, y1⟩ := sv2 1 (by decide)
        obtain ⟨w2, y2⟩ := sv2 2 (by decide)
        obtain ⟨w3, y3⟩ := sv2 3 (by decide)
        obtain ⟨w4, y4⟩ := sv2 4 (by decide)
        obtain ⟨dd, rfl⟩ : ∃ dd, d2 = dd + 20 + 1 := ⟨d2 - 21, by omega⟩
        obtain ⟨r, h3, h4, Hc, Hm, I3, I4, F3, F4, TQ, ZX1_, ZX2_, ZCrQ, B1, B2⟩ := oq_poe (d := dd + 12) I2 YX1_ YX2_ w1 w2 w3 w4
        have ZX0_ := rT_fr I3 F4 (by decide +kernel) (rT_fr I2 F3 (by decide +kernel) YX0_)
        have ZX3_ := rL_fr I3 F4 (by decide +kernel) (rL_fr I2 F3 (by decide +kernel) YX3_)
        have ZX4_ := rbV_fr I3 F4 (by decide +kernel) (rbV_fr I2 F3 (by decide +kernel) YX4_)
        have ZX5_ := rD_fr I3 F4 (by decide +kernel) (rD_fr I2 F3 (by decide +kernel) YX5_)
        have ZX6_ := rB_fr I3 F4 (by decide +kernel) (rB_fr I2 F3 (by decide +kernel) YX6_)
        have ZX9_ := rG_fr I3 F4 (by decide +kernel) (rG_po (d := dd + 18) I2 F3 Hc YX9_)
        have ZX7_ := ZCrQ YX7_
        have ZX8_ := gv_38 (d := dd + 20) (by omega) I2 I3 I4 F3 F4 ZX4_ Hc Hm YX8_
        have O40 := ax_o I2 (c := 40) (k := 11) (by decide +kernel)
        have O78 := ax_o I3 (c := 78) (k := 13) (by decide +kernel)
        have z3 : ∀ j, h3.2.2.2 0 j = h2.2.2.2 0 j := lw_frA F3 I2.lo (by decide) (by decide +kernel)
        have l3 : (h3.2.2.1 0).2.2 = L := by rw [F3.sh 0 (Nat.lt_of_lt_of_le (by decide) I2.lo), sl]
        have l4 : (h4.2.2.1 0).2.2 = L := by rw [F4.sh 0 (Nat.lt_of_lt_of_le (by decide) I3.lo), l3]
        have T4 := lw_TT I2 I3 F3 F4 (by decide +kernel) TQ T2
        obtain ⟨x, ev, fx⟩ := lw_loop hL k (i + Int32.ofInt 6) h4 (dd + 20 + 1) (by omega) I4 l4 (by omega) (by omega) (by omega) T4 ZX0_ ZX1_ ZX2_ ZX3_ ZX4_ ZX5_ ZX6_ ZX7_ ZX8_ ZX9_ (by omega) (by omega)
        exact ⟨x, sp_6 O40 O78 Hc Hm (lw_rd I2 sl (k := 1) i0 i1 (by decide) c6 y1) (lw_rd I2 sl (k := 2) i0 i1 (by decide) c6 y2) (lw_rd I2 sl (k := 3) i0 i1 (by decide) c6 y3) (lw_rd I2 sl (k := 4) i0 i1 (by decide) c6 y4) (lw_rd I3 l3 (k := 1) i0 i1 (by decide) c6 (by rw [z3, y1])) (lw_rd I3 l3 (k := 2) i0 i1 (by decide) c6 (by rw [z3, y2])) (lw_rd I3 l3 (k := 3) i0 i1 (by decide) c6 (by rw [z3, y3])) (lw_rd I3 l3 (k := 4) i0 i1 (by decide) c6 (by rw [z3, y4])) ev, fx⟩) NX7
      have NX3 := cq_nxo_ok (y0 := 0) (pc0 := 309) (chk := lw_chkE) (m := lw_m) (h0 := h) (ρ0 := ρ) (n0 := 11) (Fin := lw_Fn) (fun Z ρ1 ls st h2 d2 a hn hc R hd2 => by
        obtain ⟨rfl, rfl, I2, F, sl, T2, A1, A2, hd3⟩ := HK Z ρ1 ls st h2 d2 a hc R hd2
        have YX0_ := rT_fr I F lw_mX_rT X0_
        have YX1_ := rp_Pfr I F lw_mX_rp_P X1_
        have YX2_ := rp_Cfr I F lw_mX_rp_C X2_
        have YX3_ := rL_fr I F lw_mX_rL X3_
        have YX4_ := rbV_fr I F lw_mX_rbV X4_
        have YX5_ := rD_fr I F lw_mX_rD X5_
        have YX6_ := rB_fr I F lw_mX_rB X6_
        have YX7_ := rQ_fr I F lw_mX_rQ X7_
        have YX8_ := rY_fr I I2 F (Nat.le_antisymm A1 F.nx) lw_mX_rY X8_
        have YX9_ := rG_fr I F lw_mX_rG X9_
        obtain ⟨dd, rfl⟩ : ∃ dd, d2 = dd + 20 + 1 := ⟨d2 - 21, by omega⟩
        obtain ⟨r, h3, h4, Hc, Hm, I3, I4, F3, F4, TQ, ZX0_, ZX4_, -, B1, B2⟩ := op_rul (d := dd + 12) I2 YX0_ YX4_ (T2 (41, 1, 78, 2) (by decide))
        have ZX1_ := rp_Pfr I3 F4 (by decide +kernel) (rp_Pfr I2 F3 (by decide +kernel) YX1_)
        have ZX2_ := rp_Cfr I3 F4 (by decide +kernel) (rp_Cfr I2 F3 (by decide +kernel) YX2_)
        have ZX3_ := rL_fr I3 F4 (by decide +kernel) (rL_fr I2 F3 (by decide +kernel) YX3_)
        have ZX5_ := rD_fr I3 F4 (by decide +kernel) (rD_fr I2 F3 (by decide +kernel) YX5_)
        have ZX6_ := rB_fr I3 F4 (by decide +kernel) (rB_fr I2 F3 (by decide +kernel) YX6_)
        have ZX7_ := rQ_fr I3 F4 (by decide +kernel) (rQ_fr I2 F3 (by decide +kernel) YX7_)
        have ZX9_ := rG_fr I3 F4 (by decide +kernel) (rG_fr I2 F3 (by decide +kernel) YX9_)
        have ZX8_ := gv_18 (d := dd + 20) (by omega) I2 I3 I4 F3 F4 ZX4_ Hc Hm YX8_
        have O40 := ax_o I2 (c := 40) (k := 11) (by decide +kernel)
        have O78 := ax_o I3 (c := 78) (k := 13) (by decide +kernel)
        have z3 : ∀ j, h3.2.2.2 0 j = h2.2.2.2 0 j := lw_frA F3 I2.lo (by decide) (by decide +kernel)
        have l3 : (h3.2.2.1 0).2.2 = L := by rw [F3.sh 0 (Nat.lt_of_lt_of_le (by decide) I2.lo), sl]
        have l4 : (h4.2.2.1 0).2.2 = L := by rw [F4.sh 0 (Nat.lt_of_lt_of_le (by decide) I3.lo), l3]
        have T4 := lw_TT I2 I3 F3 F4 (by decide +kernel) TQ T2
        obtain ⟨x, ev, fx⟩ := lw_loop hL k (i + Int32.ofInt 6) h4 (dd + 20 + 1) (by omega) I4 l4 (by omega) (by omega) (by omega) T4 ZX0_ ZX1_ ZX2_ ZX3_ ZX4_ ZX5_ ZX6_ ZX7_ ZX8_ ZX9_ (by omega) (by omega)
        exact ⟨x, sp_3 O40 O78 Hc Hm   ev, fx⟩) NX6
      have NX0 := cq_nxo_ok (y0 := 0) (pc0 := 200) (chk := lw_chkE) (m := lw_m) (h0 := h) (ρ0 := ρ) (n0 := 11) (Fin := lw_Fn) (fun Z ρ1 ls st h2 d2 a hn hc R hd2 => by
        obtain ⟨rfl, rfl, I2, F, sl, T2, A1, A2, hd3⟩ := HK Z ρ1 ls st h2 d2 a hc R hd2
        have YX0_ := rT_fr I F lw_mX_rT X0_
        have YX1_ := rp_Pfr I F lw_mX_rp_P X1_
        have YX2_ := rp_Cfr I F lw_mX_rp_C X2_
        have YX3_ := rL_fr I F lw_mX_rL X3_
        have YX4_ := rbV_fr I F lw_mX_rbV X4_
        have YX5_ := rD_fr I F lw_mX_rD X5_
        have YX6_ := rB_fr I F lw_mX_rB X6_
        have YX7_ := rQ_fr I F lw_mX_rQ X7_
        have YX8_ := rY_fr I I2 F (Nat.le_antisymm A1 F.nx) lw_mX_rY X8_
        have YX9_ := rG_fr I F lw_mX_rG X9_
        have sv2 : ∀ k : Nat, k < 6 → ∃ v : Int32, h2.2.2.2 0 (i.toInt.toNat + k) = .int v := fun k hk => I2.sc.2.2.2 (i.toInt.toNat + k) (by rw [sl]; omega)
        obtain ⟨w1, y1⟩ := sv2 1 (by decide)
        obtain ⟨w2, y2⟩ := sv2 2 (by decide)
        obtain ⟨w3, y3⟩ := sv2 3 (by decide)
        obtain ⟨w4, y4⟩ := sv2 4 (by decide)
        obtain ⟨w5, y5⟩ := sv2 5 (by decide)
        obtain ⟨dd, rfl⟩ : ∃ dd, d2 = dd + 20 + 1 := ⟨d2 - 21, by omega⟩
        obtain ⟨r, h3, h4, Hc, Hm, I3, I4, F3, F4, TQ, ZX0_, B1, B2⟩ := op_fee (d := dd + 12) I2 YX0_ (T2 (41, 1, 78, 2) (by decide)) w1 w2 w3 w4 w5
        have ZX1_ := rp_Pfr I3 F4 (by decide +kernel) (rp_Pfr I2 F3 (by decide +kernel) YX1_)
        have ZX2_ := rp_Cfr I3 F4 (by decide +kernel) (rp_Cfr I2 F3 (by decide +kernel) YX2_)
        have ZX3_ := rL_fr I3 F4 (by decide +kernel) (rL_fr I2 F3 (by decide +kernel) YX3_)
        have ZX4_ := rbV_fr I3 F4 (by decide +kernel) (rbV_fr I2 F3 (by decide +kernel) YX4_)
        have ZX5_ := rD_fr I3 F4 (by decide +kernel) (rD_fr I2 F3 (by decide +kernel) YX5_)
        have ZX6_ := rB_fr I3 F4 (by decide +kernel) (rB_fr I2 F3 (by decide +kernel) YX6_)
        have ZX7_ := rQ_fr I3 F4 (by decide +kernel) (rQ_fr I2 F3 (by decide +kernel) YX7_)
        have ZX9_ := rG_fr I3 F4 (by decide +kernel) (rG_fr I2 F3 (by decide +kernel) YX9_)
        have ZX8_ := gv_14 (d := dd + 20) (by omega) I2 I3 I4 F3 F4 ZX4_ Hc Hm YX8_
        have O40 := ax_o I2 (c := 40) (k := 11) (by decide +kernel)
        have O78 := ax_o I3 (c := 78) (k := 13) (by decide +kernel)
        have z3 : ∀ j, h3.2.2.2 0 j = h2.2.2.2 0 j := lw_frA F3 I2.lo (by decide) (by decide +kernel)
        have l3 : (h3.2.2.1 0).2.2 = L := by rw [F3.sh 0 (Nat.lt_of_lt_of_le (by decide) I2.lo), sl]
        have l4 : (h4.2.2.1 0).2.2 = L := by rw [F4.sh 0 (Nat.lt_of_lt_of_le (by decide) I3.lo), l3]
        have T4 := lw_TT I2 I3 F3 F4 (by decide +kernel) TQ T2
        obtain ⟨x, ev, fx⟩ := lw_loop hL k (i + Int32.ofInt 6) h4 (dd + 20 + 1) (by omega) I4 l4 (by omega) (by omega) (by omega) T4 ZX0_ ZX1_ ZX2_ ZX3_ ZX4_ ZX5_ ZX6_ ZX7_ ZX8_ ZX9_ (by omega) (by omega)
        exact ⟨x, sp_0 O40 O78 Hc Hm (lw_rd I2 sl (k := 1) i0 i1 (by decide) c6 y1) (lw_rd I2 sl (k := 2) i0 i1 (by decide) c6 y2) (lw_rd I2 sl (k := 3) i0 i1 (by decide) c6 y3) (lw_rd I2 sl (k := 4) i0 i1 (by decide) c6 y4) (lw_rd I2 sl (k := 5) i0 i1 (by decide) c6 y5) (lw_rd I3 l3 (k := 1) i0 i1 (by decide) c6 (by rw [z3, y1])) (lw_rd I3 l3 (k := 2) i0 i1 (by decide) c6 (by rw [z3, y2])) (lw_rd I3 l3 (k := 3) i0 i1 (by decide) c6 (by rw [z3, y3])) (lw_rd I3 l3 (k := 4) i0 i1 (by decide) c6 (by rw [z3, y4])) (lw_rd I3 l3 (k := 5) i0 i1 (by decide) c6 (by rw [z3, y5])) ev, fx⟩) NX3
      obtain ⟨x, ev, fx⟩ := cq_exec_ok (Fin := lw_Fn) (n0 := 11) (ρ0 := ρ) (fun a hn hq H hd K => NX0 _ _ _ _ _ _ _ _ a hn hq H hd K) 100000 [] lw_z ρ [.ref 0, .ref 40, .ref 78, .int i] [] h [] d lw_ex cq_ag.rf (Nat.le_refl _) (fun ρ' a' => ⟨M0 ρ' a', ⟨rfl, rfl, rfl, ⟨i, rfl, by rw [cq_s_e, a' 0 (by decide)]; rfl⟩, trivial⟩, trivial, trivial⟩) hd (fun R hR => by cases hR)
      exact ⟨x, E x ev, fx⟩
