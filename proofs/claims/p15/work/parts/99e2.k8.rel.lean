/-! RULES, both sides: all clauses -/
def cnt (τ : Nat → Int) : Nat → Int
  | 0 => 0
  | n + 1 => cnt τ n + τ n
theorem cnt_b {τ : Nat → Int} : ∀ n, (∀ i, i < n → τ i = 0 ∨ τ i = 1) → 0 ≤ cnt τ n ∧ cnt τ n ≤ n
  | 0, _ => ⟨Int.le_refl 0, Int.le_refl 0⟩
  | n + 1, q => by
    have a := cnt_b n (fun i hi => q i (by omega))
    have c := q n (by omega)
    show 0 ≤ cnt τ n + τ n ∧ cnt τ n + τ n ≤ ((n + 1 : Nat) : Int)
    omega
theorem cnt_s {τ : Nat → Int} {c : Nat} {v : Int} : ∀ n, n ≤ c → cnt (up1 τ c v) n = cnt τ n
  | 0, _ => rfl
  | n + 1, q => by
    show cnt (up1 τ c v) n + up1 τ c v n = cnt τ n + τ n
    rw [cnt_s n (by omega), show up1 τ c v n = τ n from if_neg (by omega)]
theorem cnt_u {τ : Nat → Int} {c : Nat} {v : Int} : ∀ n, c < n → cnt (up1 τ c v) n = cnt τ n + v - τ c
  | 0, q => by omega
  | n + 1, q => by
    show cnt (up1 τ c v) n + up1 τ c v n = cnt τ n + τ n + v - τ c
    by_cases e : n = c
    · rw [cnt_s n (by omega), show up1 τ c v n = v from if_pos e, e]
      omega
    · rw [cnt_u n (by omega), show up1 τ c v n = τ n from if_neg e]
      omega
/-- the rules' bounds -/
def rV (V Y : Nat → Int) : Prop := (∀ j, j < 7 → cq_sv 2 j ≤ V j ∧ V j ≤ cq_sv 3 j) ∧ ∀ j, j < 6 → 0 ≤ Y j ∧ Y j ≤ 99
theorem rV.v {V Y : Nat → Int} (B : rV V Y) {l : Nat} {v : Int} (r : cq_sv 2 l ≤ v ∧ v ≤ cq_sv 3 l) : rV (up1 V l v) Y := by
  refine ⟨fun j hj => ?_, B.2⟩
  by_cases e : j = l
  · rw [show up1 V l v j = v from if_pos e, e]
    exact r
  · rw [show up1 V l v j = V j from if_neg e]
    exact B.1 j hj
theorem rV.y {V Y : Nat → Int} (B : rV V Y) {l : Nat} {v : Int} (r : 0 ≤ v ∧ v ≤ 99) : rV V (up1 Y l v) := by
  refine ⟨B.1, fun j hj => ?_⟩
  by_cases e : j = l
  · rw [show up1 Y l v j = v from if_pos e]
    exact r
  · rw [show up1 Y l v j = Y j from if_neg e]
    exact B.2 j hj
/-- how the reading of the rules ends on both sides -/
def RR (d : Nat) (h g h0 g0 : am_H) (l1 l2 : List Value) : Prop := ∃ H G : am_H, (∃ (r : Nat) (V Y : Nat → Int), am_ev (d + 7) 19 10 l1 [] h (some (iv r), H) ∧ am_ev (d + 7) 174 70 l2 [] g (some (iv r), G) ∧ r ≤ 13 ∧ fS H ∧ fS G ∧ G.2.2.2 78 2 = iv 0 ∧ H.2.2.2 41 3 = iv 0 ∧ H.2.2.2 41 4 = iv (-1) ∧ G.2.2.2 78 8 = iv 0 ∧ G.2.2.2 78 9 = iv (-1) ∧ (∀ j, j < 7 → H.2.2.2 44 j = iv (V j)) ∧ (∀ j, j < 6 → H.2.2.2 45 j = iv (Y j)) ∧ (∀ j, j < 7 → G.2.2.2 83 j = iv (V j)) ∧ (∀ j, j < 6 → G.2.2.2 84 j = iv (Y j)) ∧ rV V Y) ∨
  (∃ (f : Int) (sn : Nat), am_ev (d + 7) 19 10 l1 [] h (some (iv (-1)), H) ∧ am_ev (d + 7) 174 70 l2 [] g (some (.retAddr (79 + 1)), G) ∧ fS H ∧ fS G ∧ G.2.2.2 78 2 = iv 0 ∧ H.2.2.2 41 3 = iv f ∧ H.2.2.2 41 4 = iv sn ∧ G.2.2.2 78 8 = iv f ∧ G.2.2.2 78 9 = iv sn ∧ (∀ j, H.2.2.2 44 j = h0.2.2.2 44 j) ∧ (∀ j, H.2.2.2 45 j = h0.2.2.2 45 j) ∧ (∀ j, G.2.2.2 81 j = g0.2.2.2 81 j) ∧ (∀ j, G.2.2.2 82 j = g0.2.2.2 82 j))
section RRA
variable {d : Nat} {h0 g0 : am_H} {b : Nat → Int} {L : Nat}
theorem RR.fail {h g : am_H} {l1 l2 : List Value} {f : Int} {sn : Nat} (a : ∃ H : am_H, am_ev (d + 7) 19 10 l1 [] h (some (iv (-1)), H) ∧ H.2.2.2 41 3 = iv f ∧ H.2.2.2 41 4 = iv sn ∧ (∀ j, H.2.2.2 44 j = h0.2.2.2 44 j) ∧ (∀ j, H.2.2.2 45 j = h0.2.2.2 45 j) ∧ fS H) (c : ∃ H : am_H, am_ev (d + 7) 174 70 l2 [] g (some (.retAddr (79 + 1)), H) ∧ H.2.2.2 78 8 = iv f ∧ H.2.2.2 78 9 = iv sn ∧ (∀ j, H.2.2.2 81 j = g0.2.2.2 81 j) ∧ (∀ j, H.2.2.2 82 j = g0.2.2.2 82 j) ∧ fS H ∧ H.2.2.2 78 2 = iv 0) : RR d h g h0 g0 l1 l2 := by
  obtain ⟨H, a1, a2, a3, a4, a5, a6⟩ := a
  obtain ⟨G, c1, c2, c3, c4, c5, c6, c7⟩ := c
  exact ⟨H, G, Or.inr ⟨f, sn, a1, c1, a6, c6, c7, a2, a3, c2, c3, a4, a5, c4, c5⟩⟩
theorem RR.on {h g h' g' : am_H} {l1 l2 l1' l2' : List Value} (a : ∀ x, am_ev (d + 7) 19 10 l1' [] h' x → am_ev (d + 7) 19 10 l1 [] h x) (c : ∀ x, am_ev (d + 7) 174 70 l2' [] g' x → am_ev (d + 7) 174 70 l2 [] g x) (q : RR d h' g' h0 g0 l1' l2') : RR d h g h0 g0 l1 l2 := by
  obtain ⟨H, G, ⟨r, V, Y, q1, q2, q3⟩ | ⟨f, sn, q1, q2, q3⟩⟩ := q
  · exact ⟨H, G, Or.inl ⟨r, V, Y, a _ q1, c _ q2, q3⟩⟩
  · exact ⟨H, G, Or.inr ⟨f, sn, a _ q1, c _ q2, q3⟩⟩
theorem rr_n {n : Nat} : ((n + 1 : Nat) : Int) = (n : Int) + 1 := by omega
theorem rr_loop (hb : tz_r b) (hL : L ≤ 1600) : ∀ (m n p s e : Nat) (t u : Int32) (k v w : Int) (V Y τ : Nat → Int) (h g : am_H) (a3 a4 a2 : Value), 14 - n ≤ m → cnt τ 13 = (n : Int) → CS h h0 b L p t u V Y → MS g g0 b L p s e k v w τ V Y → (∀ i, i < 13 → τ i = 0 ∨ τ i = 1) → (∀ i, i < 7 → (bt t i = true ↔ τ i = 1)) → (∀ i, i < 6 → (bt u i = true ↔ τ (i + 7) = 1)) → rV V Y → RR d h g h0 g0 [.ref 43, .ref 41, iv n, a3, a4] [.ref 78, iv n, a2]
  | 0, n, p, s, e, t, u, k, v, w, V, Y, τ, h, g, a3, a4, a2, hm, hc, C, M, hτ, ht, hu, hV => by
    have := cnt_b 13 hτ
    omega
  | m + 1, n, p, s, e, t, u, k, v, w, V, Y, τ, h, g, a3, a4, a2, hm, hc, C, M, hτ, ht, hu, hV => by
    have hn : n ≤ 13 := by
      have := cnt_b 13 hτ
      omega
    have t0 : tz_t b L p s e k v := M.2.2.2.1
    have f0 := t0.f hb
    by_cases kn : k = 0
    · obtain ⟨H, a1, a2', a3', a4', a5', a6'⟩ := rl_E (d := d) (a3 := a3) (a4 := a4) hb hL C hn t0 kn
      have c1 := rm_E (d := d) (n := n) (a2 := a2) hb hL M kn
      obtain ⟨S, -, -, -, -, -, -, -, -, -, f8, f9, -, dV, dY, -, -, z2⟩ := M
      exact ⟨H, g, Or.inl ⟨n, V, Y, a1, c1, hn, a6', S, z2, a2', a3', f8, f9, a4', a5', dV, dY, hV⟩⟩
    · obtain ⟨c, q⟩ := cl_r_ex b s e k
      have q' := q
      rcases q' with ⟨l, hl8, rfl, -⟩ | ⟨rfl, -⟩
      · by_cases l7 : l = 7
        · subst l7
          obtain ⟨s1, e1, k1, v1, t1⟩ := tz_t_ex (b := b) f0.2.2.1
          have f1 := t1.f hb
          by_cases q1 : k1 = 2
          · by_cases r1 : 0 ≤ v1 ∧ v1 ≤ 5
            · obtain ⟨l, el⟩ : ∃ l : Nat, v1 = (l : Int) := ⟨v1.toNat, by omega⟩
              subst el
              have hl : l < 6 := by omega
              rcases hτ (l + 7) (by omega) with q0 | q0
              · have q0c : bt u l = false := by
                  cases z : bt u l with
                  | false => rfl
                  | true =>
                    have := (hu l hl).1 z
                    omega
                obtain ⟨s2, e2, k2, v2, t2⟩ := tz_t_ex (b := b) f1.2.2.1
                have f2 := t2.f hb
                by_cases q2 : k2 = 2
                · by_cases r2 : 0 ≤ v2 ∧ v2 ≤ 99
                  · obtain ⟨s3, e3, k3, v3, t3⟩ := tz_t_ex (b := b) f2.2.2.1
                    have f3 := t3.f hb
                    by_cases q3 : k3 = 59
                    · obtain ⟨s4, e4, k4, v4, t4⟩ := tz_t_ex (b := b) f3.2.2.1
                      obtain ⟨H, CH, aH⟩ := rl_Nf (d := d) (a3 := a3) (a4 := a4) hb hL C hn t0 kn q hl t1 q1 q0c t2 ⟨q2, r2⟩ t3 q3
                      obtain ⟨G, MG, aG⟩ := rm_Nf (d := d) (n := n) (a2 := a2) hb hL M kn q hl t1 q1 q0 t2 ⟨q2, r2⟩ t3 q3 t4
                      have cu := cnt_u (τ := τ) (c := l + 7) (v := 1) 13 (by omega)
                      have IH := rr_loop hb hL m (n + 1) e3 s4 e4 t _ k4 v4 _ V _ _ H G (iv 7) (iv 1) (iv l) (by omega) (by omega) CH MG (fun i hi => by
                        by_cases e : i = l + 7
                        · exact Or.inr (if_pos e)
                        · rw [show up1 τ (l + 7) 1 i = τ i from if_neg e]
                          exact hτ i hi) (fun i hi => by
                        rw [show up1 τ (l + 7) 1 i = τ i from if_neg (by omega)]
                        exact ht i hi) (fun i hi => by
                        rw [b_set (by omega) (by omega)]
                        by_cases e : i = l
                        · rw [e, show up1 τ (l + 7) 1 (l + 7) = 1 from if_pos rfl]
                          simp
                        · rw [show up1 τ (l + 7) 1 (i + 7) = τ (i + 7) from if_neg (by omega), decide_eq_false e, Bool.or_false]
                          exact hu i hi) (hV.y r2)
                      exact IH.on (fun x y => aH x (rr_n ▸ y)) (fun x y => aG x (rr_n ▸ y))
                    · exact RR.fail (rl_Fff (d := d) (a3 := a3) (a4 := a4) hb hL C hn t0 kn q hl t1 q1 q0c t2 ⟨q2, r2⟩ t3 q3) (rm_Fff (d := d) (n := n) (a2 := a2) hb hL M kn q hl t1 q1 q0 t2 ⟨q2, r2⟩ t3 q3)
                  · exact RR.fail (rl_Ffe (d := d) (a3 := a3) (a4 := a4) hb hL C hn t0 kn q hl t1 q1 q0c t2 ⟨q2, r2⟩) (rm_Ffe (d := d) (n := n) (a2 := a2) hb hL M kn q hl t1 q1 q0 t2 ⟨q2, r2⟩)
                · exact RR.fail (rl_Ffd (d := d) (a3 := a3) (a4 := a4) hb hL C hn t0 kn q hl t1 q1 q0c t2 q2) (rm_Ffd (d := d) (n := n) (a2 := a2) hb hL M kn q hl t1 q1 q0 t2 q2)
              · exact RR.fail (rl_Ffc (d := d) (a3 := a3) (a4 := a4) hb hL C hn t0 kn q hl t1 q1 ((hu l hl).2 q0)) (rm_Ffc (d := d) (n := n) (a2 := a2) hb hL M kn q hl t1 q1 q0)
            · exact RR.fail (rl_Ffb (d := d) (a3 := a3) (a4 := a4) hb hL C hn t0 kn q t1 ⟨q1, r1⟩) (rm_Ffb (d := d) (n := n) (a2 := a2) hb hL M kn q t1 ⟨q1, r1⟩)
          · exact RR.fail (rl_Ffa (d := d) (a3 := a3) (a4 := a4) hb hL C hn t0 kn q t1 q1) (rm_Ffa (d := d) (n := n) (a2 := a2) hb hL M kn q t1 q1)
        · have hl : l < 7 := by omega
          rcases hτ l (by omega) with q0 | q0
          · have q0c : bt t l = false := by
              cases z : bt t l with
              | false => rfl
              | true =>
                have := (ht l hl).1 z
                omega
            obtain ⟨s1, e1, k1, v1, t1⟩ := tz_t_ex (b := b) f0.2.2.1
            have f1 := t1.f hb
            by_cases q1 : k1 = 2
            · by_cases r1 : cq_sv 2 l ≤ v1 ∧ v1 ≤ cq_sv 3 l
              · obtain ⟨s2, e2, k2, v2, t2⟩ := tz_t_ex (b := b) f1.2.2.1
                have f2 := t2.f hb
                by_cases q2 : k2 = 59
                · obtain ⟨s3, e3, k3, v3, t3⟩ := tz_t_ex (b := b) f2.2.2.1
                  obtain ⟨H, CH, aH⟩ := rl_Nv (d := d) (a3 := a3) (a4 := a4) hb hL C hn t0 kn hl q q0c t1 ⟨q1, r1⟩ t2 q2
                  obtain ⟨G, MG, aG⟩ := rm_Nv (d := d) (n := n) (a2 := a2) hb hL M kn hl q q0 t1 ⟨q1, r1⟩ t2 q2 t3
                  have cu := cnt_u (τ := τ) (c := l) (v := 1) 13 (by omega)
                  have IH := rr_loop hb hL m (n + 1) e2 s3 e3 _ u k3 v3 _ _ Y _ H G (iv l) (iv 1) (iv l) (by omega) (by omega) CH MG (fun i hi => by
                    by_cases e : i = l
                    · exact Or.inr (if_pos e)
                    · rw [show up1 τ l 1 i = τ i from if_neg e]
                      exact hτ i hi) (fun i hi => by
                    rw [b_set (by omega) (by omega)]
                    by_cases e : i = l
                    · rw [e, show up1 τ l 1 l = 1 from if_pos rfl]
                      simp
                    · rw [show up1 τ l 1 i = τ i from if_neg e, decide_eq_false e, Bool.or_false]
                      exact ht i hi) (fun i hi => by
                    rw [show up1 τ l 1 (i + 7) = τ (i + 7) from if_neg (by omega)]
                    exact hu i hi) (hV.v r1)
                  exact IH.on (fun x y => aH x (rr_n ▸ y)) (fun x y => aG x (rr_n ▸ y))
                · exact RR.fail (rl_Fd (d := d) (a3 := a3) (a4 := a4) hb hL C hn t0 kn hl q q0c t1 ⟨q1, r1⟩ t2 q2) (rm_Fd (d := d) (n := n) (a2 := a2) hb hL M kn hl q q0 t1 ⟨q1, r1⟩ t2 q2)
              · exact RR.fail (rl_Fc (d := d) (a3 := a3) (a4 := a4) hb hL C hn t0 kn hl q q0c t1 ⟨q1, r1⟩) (rm_Fc (d := d) (n := n) (a2 := a2) hb hL M kn hl q q0 t1 ⟨q1, r1⟩)
            · exact RR.fail (rl_Fb (d := d) (a3 := a3) (a4 := a4) hb hL C hn t0 kn hl q q0c t1 q1) (rm_Fb (d := d) (n := n) (a2 := a2) hb hL M kn hl q q0 t1 q1)
          · exact RR.fail (rl_Fa (d := d) (a3 := a3) (a4 := a4) hb hL C hn t0 kn hl q ((ht l hl).2 q0)) (rm_Fa (d := d) (n := n) (a2 := a2) hb hL M kn hl q q0)
      · exact RR.fail (rl_Fx (d := d) (a3 := a3) (a4 := a4) hb hL C hn t0 kn q) (rm_Fx (d := d) (n := n) (a2 := a2) hb hL M kn q)
end RRA
