/-! LEAVES AT THE LAW -/
/-- leave k of both sides: the object's places against the rows -/
def rL1 (h : am_H) (k s : Nat) : Prop := h.2.2.2 49 k = .ref s ∧ h.2.2.2 s 0 = h.2.2.2 103 k ∧ h.2.2.2 s 1 = h.2.2.2 111 k ∧ (∀ j, 2 ≤ j → j ≤ 8 → h.2.2.2 s j = h.2.2.2 (102 + j) k) ∧ ((h.2.2.2 s 9 = iv (-1) ∧ h.2.2.2 113 k = iv (-1)) ∨ (∃ x y : Int32, 0 ≤ x.toInt ∧ 0 ≤ y.toInt ∧ h.2.2.2 s 9 = .int x ∧ h.2.2.2 112 k = .int x ∧ h.2.2.2 s 10 = .int y ∧ h.2.2.2 113 k = .int y))
def rL (h : am_H) : Prop := ∃ m : Int32, h.2.2.2 48 1 = .int m ∧ h.2.2.2 78 35 = .int m ∧ (∀ k : Nat, (k : Int) < m.toInt → ∃ s, rL1 h k s) ∧ (∀ k l : Nat, k < l → (l : Int) < m.toInt → h.2.2.2 49 k ≠ h.2.2.2 49 l)
def rL_m (m : cq_W) : Bool := lw_nF m 48 1 && lw_nF m 78 35 && lw_nA m 49 && lw_nA m 103 && lw_nA m 104 && lw_nA m 105 && lw_nA m 106 && lw_nA m 107 && lw_nA m 108 && lw_nA m 109 && lw_nA m 110 && lw_nA m 111 && lw_nA m 112 && lw_nA m 113 && (List.range 11).all (fun j => lw_nO m 4 j)
section RLF
variable {h h2 : am_H} {m : cq_W}
theorem rL_bm (I : cq_Inv none h) {x : Int32} (e : h.2.2.2 48 1 = .int x) : 0 ≤ x.toInt ∧ x.toInt ≤ 80 := by
  obtain ⟨y, ey, a, b⟩ := ax_in I (c := 48) (j := 1) (l := 0) (u := 80) (by decide +kernel) (by decide +kernel)
  rw [e] at ey
  cases ey
  exact ⟨a, b⟩
theorem rL_ob (I : cq_Inv none h) {k s : Nat} (hk : k < 80) (e : h.2.2.2 49 k = .ref s) : cq_kOk h s (0, 4, 0) := by
  have t := ax_ty I (c := 49) (j := k) (t := (11, 0, 0, 4, 48, 1)) (by
    rw [show Nat.blt k (cq_fix 49).2.2 = true from Nat.ble_eq_true_of_le hk]
    decide +kernel) (by
    unfold cq_ty
    rw [show cq_isA 49 = true by decide +kernel, show ((Nat.beq 49 81 || Nat.beq 49 83) && Nat.beq k 1) = false from rfl]
    show cq_ar 49 = _
    decide +kernel)
  rw [e] at t
  rcases t with ⟨t, _⟩ | ⟨a, t, z⟩
  · cases t
  · cases t
    exact z
theorem rL1_fr {k s : Nat} (ob : ∀ j, j < 11 → h2.2.2.2 s j = h.2.2.2 s j) (h49 : h2.2.2.2 49 k = h.2.2.2 49 k) (ar : ∀ c, 103 ≤ c → c ≤ 113 → h2.2.2.2 c k = h.2.2.2 c k) (X : rL1 h k s) : rL1 h2 k s := by
  obtain ⟨a, b, c, f, g⟩ := X
  refine ⟨by rw [h49, a], by rw [ob 0 (by decide), ar 103 (by decide) (by decide), b], by rw [ob 1 (by decide), ar 111 (by decide) (by decide), c], fun j j1 j2 => by rw [ob j (by omega), ar (102 + j) (by omega) (by omega), f j j1 j2], ?_⟩
  rw [ob 9 (by decide), ob 10 (by decide), ar 112 (by decide) (by decide), ar 113 (by decide) (by decide)]
  exact g
theorem rL_fr (I : cq_Inv none h) (F : cq_Fr m h h2) (q : rL_m m = true) (X : rL h) : rL h2 := by
  have lo := I.lo
  unfold rL_m at q
  simp only [Bool.and_eq_true] at q
  obtain ⟨⟨⟨⟨⟨⟨⟨⟨⟨⟨⟨⟨⟨⟨q1, q2⟩, q49⟩, q103⟩, q104⟩, q105⟩, q106⟩, q107⟩, q108⟩, q109⟩, q110⟩, q111⟩, q112⟩, q113⟩, qo⟩ := q
  obtain ⟨x, e1, e2, P, D⟩ := X
  have bx := rL_bm I e1
  have f49 := lw_frA F lo (c := 49) (by decide) q49
  refine ⟨x, by rw [lw_frF F lo (by decide) q1, e1], by rw [lw_frF F lo (by decide) q2, e2], fun k hk => ?_, fun k l h1 h2 => by rw [f49, f49]; exact D k l h1 h2⟩
  obtain ⟨s, z⟩ := P k hk
  obtain ⟨o1, o2, o3⟩ := rL_ob I (k := k) (by omega) z.1
  refine ⟨s, rL1_fr (fun j hj => lw_frO F o1 o2 o3 (List.all_eq_true.1 qo j (List.mem_range.2 hj))) (f49 k) (fun c c1 c2 => ?_) z⟩
  have hc : c = 103 ∨ c = 104 ∨ c = 105 ∨ c = 106 ∨ c = 107 ∨ c = 108 ∨ c = 109 ∨ c = 110 ∨ c = 111 ∨ c = 112 ∨ c = 113 := by omega
  rcases hc with rfl | rfl | rfl | rfl | rfl | rfl | rfl | rfl | rfl | rfl | rfl
  · exact lw_frA F lo (by decide) q103 k
  · exact lw_frA F lo (by decide) q104 k
  · exact lw_frA F lo (by decide) q105 k
  · exact lw_frA F lo (by decide) q106 k
  · exact lw_frA F lo (by decide) q107 k
  · exact lw_frA F lo (by decide) q108 k
  · exact lw_frA F lo (by decide) q109 k
  · exact lw_frA F lo (by decide) q110 k
  · exact lw_frA F lo (by decide) q111 k
  · exact lw_frA F lo (by decide) q112 k
  · exact lw_frA F lo (by decide) q113 k
end RLF
