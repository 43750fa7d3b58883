/-! the rough machine's step -/
noncomputable def bm_st (G : bm_G) (e : am_E) (pc : Nat) (ls st : List Value) (b : bm_H) : bm_A := match e.1 with
  | .aconst_null => some (pc + 1, ls, .null :: st, b)
  | .iconst n => some (pc + 1, ls, .int (Int32.ofInt n) :: st, b)
  | .bipush n => some (pc + 2, ls, .int (Int8.ofInt n).toInt32 :: st, b)
  | .sipush n => some (pc + 3, ls, .int (Int16.ofInt n).toInt32 :: st, b)
  | .lconst n => some (pc + 1, ls, .long (Int64.ofNat n) :: st, b)
  | .iload i => (match ls[i]? with
    | some a => bif bm_I G a then some (pc + 2, ls, a :: st, b) else none
    | none => none)
  | .iload_n i => (match ls[i.val]? with
    | some a => bif bm_I G a then some (pc + 1, ls, a :: st, b) else none
    | none => none)
  | .lload i => (match ls[i]? with
    | some a => bif (bm_il G a).isSome then some (pc + 2, ls, a :: st, b) else none
    | none => none)
  | .lload_n i => (match ls[i.val]? with
    | some a => bif (bm_il G a).isSome then some (pc + 1, ls, a :: st, b) else none
    | none => none)
  | .aload i => (match ls[i]? with
    | some (.ref x) => some (pc + 2, ls, .ref x :: st, b)
    | some .null => some (pc + 2, ls, .null :: st, b)
    | _ => none)
  | .aload_n i => (match ls[i.val]? with
    | some (.ref x) => some (pc + 1, ls, .ref x :: st, b)
    | some .null => some (pc + 1, ls, .null :: st, b)
    | _ => none)
  | .istore i => (match st with
    | a :: r => bif bm_I G a && Nat.blt i ls.length then some (pc + 2, bm_set1 ls i a, r, b) else none
    | _ => none)
  | .istore_n i => (match st with
    | a :: r => bif bm_I G a && Nat.blt i.val ls.length then some (pc + 1, bm_set1 ls i.val a, r, b) else none
    | _ => none)
  | .astore i => (match st with
    | .ref x :: r => bif Nat.blt i ls.length then some (pc + 2, bm_set1 ls i (.ref x), r, b) else none
    | .null :: r => bif Nat.blt i ls.length then some (pc + 2, bm_set1 ls i .null, r, b) else none
    | _ => none)
  | .astore_n i => (match st with
    | .ref x :: r => bif Nat.blt i.val ls.length then some (pc + 1, bm_set1 ls i.val (.ref x), r, b) else none
    | .null :: r => bif Nat.blt i.val ls.length then some (pc + 1, bm_set1 ls i.val .null, r, b) else none
    | _ => none)
  | .iinc i n => (match ls[i]? with
    | some (.int x) => some (pc + 3, bm_set1 ls i (.int (x + Int32.ofInt n)), st, b)
    | _ => none)
  | .iadd => (match st with
    | y :: x :: r => (match bm_add G x y with
      | some v => some (pc + 1, ls, v :: r, b)
      | none => none)
    | _ => none)
  | .iand => (match st with
    | y :: x :: r => (match bm_and G x y with
      | some v => some (pc + 1, ls, v :: r, b)
      | none => none)
    | _ => none)
  | .isub => (match st with
    | y :: x :: r => (match bm_bi G (fun x y => x - y) x y with
      | some v => some (pc + 1, ls, v :: r, b)
      | none => none)
    | _ => none)
  | .imul => (match st with
    | y :: x :: r => (match bm_bi G (fun x y => x * y) x y with
      | some v => some (pc + 1, ls, v :: r, b)
      | none => none)
    | _ => none)
  | .ior => (match st with
    | y :: x :: r => (match bm_bi G (fun x y => x ||| y) x y with
      | some v => some (pc + 1, ls, v :: r, b)
      | none => none)
    | _ => none)
  | .ixor => (match st with
    | y :: x :: r => (match bm_bi G (fun x y => x ^^^ y) x y with
      | some v => some (pc + 1, ls, v :: r, b)
      | none => none)
    | _ => none)
  | .ishl => (match st with
    | y :: x :: r => (match bm_bi G (fun x y => x <<< (y &&& 31)) x y with
      | some v => some (pc + 1, ls, v :: r, b)
      | none => none)
    | _ => none)
  | .ishr => (match st with
    | y :: x :: r => (match bm_bi G (fun x y => x >>> (y &&& 31)) x y with
      | some v => some (pc + 1, ls, v :: r, b)
      | none => none)
    | _ => none)
  | .iushr => (match st with
    | y :: x :: r => (match bm_bi G (fun x y => (x.toUInt32 >>> (y.toUInt32 &&& Int32.toUInt32 31)).toInt32) x y with
      | some v => some (pc + 1, ls, v :: r, b)
      | none => none)
    | _ => none)
  | .lcmp => (match st with
    | y :: x :: r => (match bm_lc G x y with
      | some v => some (pc + 1, ls, v :: r, b)
      | none => none)
    | _ => none)
  | .idiv => (match st with
    | .int y :: .int x :: r => if y = 0 then none else some (pc + 1, ls, .int (x / y) :: r, b)
    | _ => none)
  | .lsub => (match st with
    | .long y :: .long x :: r => some (pc + 1, ls, .long (x - y) :: r, b)
    | _ => none)
  | .lshl => (match st with
    | .int y :: .long x :: r => some (pc + 1, ls, .long (x <<< (y.toInt64 &&& 63)) :: r, b)
    | _ => none)
  | .i2l => (match st with
    | .int x :: r => some (pc + 1, ls, .long x.toInt64 :: r, b)
    | .retAddr n :: r => bif Nat.blt 0 n && Nat.blt n 1000 then some (pc + 1, ls, .retAddr (1999 + n) :: r, b) else none
    | _ => none)
  | .i2b => (match st with
    | a :: r => bif bm_I G a then (match bm_c a with
      | some x => some (pc + 1, ls, .int x.toInt8.toInt32 :: r, b)
      | none => some (pc + 1, ls, .retAddr 1000 :: r, b)) else none
    | _ => none)
  | .dup => (match st with
    | v :: r => bif Nat.beq (bm_cat v) 1 then some (pc + 1, ls, v :: v :: r, b) else none
    | _ => none)
  | .pop => (match st with
    | v :: r => bif Nat.beq (bm_cat v) 1 then some (pc + 1, ls, r, b) else none
    | _ => none)
  | .goto _ => some (e.2.2.1.toNat, ls, st, b)
  | .ifCond c _ => (match st with
    | x :: r => (match bm_br G c x (.int 0) with
      | some t => bif t then some (e.2.2.1.toNat, ls, r, b) else some (pc + 3, ls, r, b)
      | none => none)
    | _ => none)
  | .if_icmp c _ => (match st with
    | y :: x :: r => (match bm_br G c x y with
      | some t => bif t then some (e.2.2.1.toNat, ls, r, b) else some (pc + 3, ls, r, b)
      | none => none)
    | _ => none)
  | .ifnull _ => (match st with
    | .null :: r => some (e.2.2.1.toNat, ls, r, b)
    | .ref _ :: r => some (pc + 3, ls, r, b)
    | _ => none)
  | .ifnonnull _ => (match st with
    | .null :: r => some (pc + 3, ls, r, b)
    | .ref _ :: r => some (e.2.2.1.toNat, ls, r, b)
    | _ => none)
  | .tableswitch d lo hi offs => (match st with
    | a :: r => (match bm_c a with
      | some x => if x.toInt < lo ∨ hi < x.toInt then some (((pc : Int) + d).toNat, ls, r, b) else
        (match offs[(x.toInt - lo).toNat]? with
        | some o => some (((pc : Int) + o).toNat, ls, r, b)
        | none => none)
      | none => (match bm_iv G a with
        | some q => if q.2 < lo ∨ hi < q.1 then some (((pc : Int) + d).toNat, ls, r, b) else none
        | none => none))
    | _ => none)
  | .ldc _ => bif Nat.beq e.2.2.2.2.1 0 then some (pc + 2, ls, Value.int (Int32.ofNat e.2.2.2.1) :: st, b) else none
  | .ldc_w _ => bif Nat.beq e.2.2.2.2.1 0 then some (pc + 3, ls, Value.int (Int32.ofNat e.2.2.2.1) :: st, b) else none
  | .ldc2_w _ => some (pc + 3, ls, .long (Int64.ofNat e.2.2.2.1) :: st, b)
  | .getstatic _ => some (pc + 3, ls, .ref e.2.2.2.1 :: st, b)
  | .getfield _ => (match st with
    | .ref a :: r => bif bm_isO G b a e.2.2.2.1 then some (pc + 3, ls, bm_get G b a e.2.2.2.2.1 :: r, b) else none
    | _ => none)
  | .putfield _ => (match st with
    | v :: .ref a :: r => bif bm_isO G b a e.2.2.2.1 && bm_fok G (am_ty e.2.2.2.1 e.2.2.2.2.1) v then some (pc + 3, ls, r, bm_put b a e.2.2.2.2.1 v) else none
    | _ => none)
  | .iaload => (match st with
    | .int i :: .ref a :: r => (match bm_rd G b a i (fun c => Nat.beq c 0) with
      | some v => some (pc + 1, ls, v :: r, b)
      | none => none)
    | _ => none)
  | .baload => (match st with
    | .int i :: .ref a :: r => (match bm_rd G b a i (fun c => Nat.beq c 1 || Nat.beq c 2) with
      | some v => some (pc + 1, ls, v :: r, b)
      | none => none)
    | _ => none)
  | .aaload => (match st with
    | .int i :: .ref a :: r => (match bm_rd G b a i (fun c => Nat.ble 4 c && am_isA c) with
      | some v => some (pc + 1, ls, v :: r, b)
      | none => none)
    | _ => none)
  | .iastore => (match st with
    | v :: .int i :: .ref a :: r => bif bm_I G v then (match bm_wr G b a i 0 v with
      | some b' => some (pc + 1, ls, r, b')
      | none => none) else none
    | _ => none)
  | .bastore => (match st with
    | v :: .int i :: .ref a :: r => bif Nat.beq (bm_sh G b a).2.1 1 then (bif bm_I G v then (match bm_wr G b a i 1 (match bm_c v with
        | some x => .int x.toInt8.toInt32
        | none => .retAddr 1000) with
      | some b' => some (pc + 1, ls, r, b')
      | none => none) else none) else (match bm_c v with
        | some x => (match bm_wr G b a i 2 (.int (x &&& 1)) with
          | some b' => some (pc + 1, ls, r, b')
          | none => none)
        | none => none)
    | _ => none)
  | .aastore => (match st with
    | .ref v :: .int i :: .ref a :: r => bif bm_isO G b v (bm_sh G b v).2.1 && am_isA ((bm_sh G b v).2.1 + 4) then (match bm_wr G b a i ((bm_sh G b v).2.1 + 4) (.ref v) with
      | some b' => some (pc + 1, ls, r, b')
      | none => none) else none
    | _ => none)
  | .arraylength => (match st with
    | .ref a :: r => bif Nat.blt a b.1 && (Nat.beq (bm_sh G b a).1 1 || Nat.beq (bm_sh G b a).1 2) then some (pc + 1, ls, .int (Int32.ofNat (bm_sh G b a).2.2) :: r, b) else none
    | _ => none)
  | .new _ => some (pc + 3, ls, .ref b.1 :: st, bm_mk b (0, e.2.2.2.1, am_N e.2.2.2.1) (am_N e.2.2.2.1))
  | .newarray _ => (match st with
    | .int n :: r => if n < 0 ∨ 100000 < n.toNatClampNeg then none else some (pc + 2, ls, .ref b.1 :: r, bm_mk b (1, e.2.2.2.1, n.toNatClampNeg) n.toNatClampNeg)
    | _ => none)
  | .anewarray _ => (match st with
    | .int n :: r => if n < 0 ∨ 100000 < n.toNatClampNeg ∨ e.2.2.2.1 < 4 then none else some (pc + 3, ls, .ref b.1 :: r, bm_mk b (1, e.2.2.2.1, n.toNatClampNeg) n.toNatClampNeg)
    | _ => none)
  | _ => none
/-! lists of rough values -/
theorem bm_rl.uncons {ρ : Nat → Int32} {a : Value} {as l : List Value} (h : bm_rl ρ (a :: as) l) : ∃ v vs, l = v :: vs ∧ bm_rel ρ a v ∧ bm_rl ρ as vs := by
  cases l with
  | nil => exact absurd h id
  | cons v vs => exact ⟨v, vs, rfl, h.1, h.2⟩
theorem bm_rl.unnil {ρ : Nat → Int32} {l : List Value} (h : bm_rl ρ [] l) : l = [] := by
  cases l with
  | nil => rfl
  | cons v vs => exact absurd h id
theorem bm_rl.len {ρ : Nat → Int32} : ∀ {as l : List Value}, bm_rl ρ as l → as.length = l.length
  | [], [], _ => rfl
  | [], _ :: _, h => absurd h id
  | _ :: _, [], h => absurd h id
  | _ :: as, _ :: vs, h => congrArg (· + 1) (bm_rl.len h.2)
theorem bm_rl.get {ρ : Nat → Int32} : ∀ {as l : List Value} {i : Nat} {a : Value}, bm_rl ρ as l → as[i]? = some a → ∃ v, l[i]? = some v ∧ bm_rel ρ a v
  | [], [], i, a, _, h => by simp at h
  | [], _ :: _, _, _, h, _ => absurd h id
  | _ :: _, [], _, _, h, _ => absurd h id
  | a0 :: as, v0 :: vs, i, a, h, hi => by
    cases i with
    | zero => cases hi; exact ⟨v0, rfl, h.1⟩
    | succ i => exact bm_rl.get (as := as) (l := vs) h.2 hi
theorem bm_rl.set {ρ : Nat → Int32} : ∀ {as l : List Value} {i : Nat} {a v : Value}, bm_rl ρ as l → bm_rel ρ a v → bm_rl ρ (as.set i a) (l.set i v)
  | [], [], _, _, _, _, _ => trivial
  | [], _ :: _, _, _, _, h, _ => absurd h id
  | _ :: _, [], _, _, _, h, _ => absurd h id
  | _ :: as, _ :: vs, i, a, v, h, ha => by
    cases i with
    | zero => exact ⟨ha, h.2⟩
    | succ i => exact ⟨h.1, bm_rl.set (as := as) (l := vs) h.2 ha⟩
theorem bm_rl.kill {ρ : Nat → Int32} {as l : List Value} {i : Nat} (h : bm_rl ρ as l) : bm_rl ρ (bm_kill as i) (am_kill l i) := by
  cases i with
  | zero => exact h
  | succ j =>
    unfold bm_kill am_kill
    simp only
    cases hj : as[j]? with
    | none =>
      have : l[j]? = none := by
        rw [List.getElem?_eq_none_iff] at hj ⊢
        rw [← h.len]
        exact hj
      rw [this]
      exact h
    | some a =>
      obtain ⟨v, hv, hr⟩ := h.get hj
      rw [hv]
      simp only
      rw [bm_cat_eq hr]
      cases Nat.beq (bm_cat a) 2 with
      | true => exact h.set rfl
      | false => exact h
theorem bm_rl.set1 {ρ : Nat → Int32} {as l : List Value} {i : Nat} {a v : Value} (h : bm_rl ρ as l) (ha : bm_rel ρ a v) : bm_rl ρ (bm_set1 as i a) (am_set1 l i v) := (h.kill).set ha
/-! the rough heap -/
def bm_RR (G : bm_G) (ρ : Nat → Int32) (b : bm_H) (h : am_H) : Prop := h.1 = b.1 ∧ h.2.1 = b.2.1 ∧ (∀ k, k < b.1 → h.2.2.1 k = bm_sh G b k) ∧ (∀ k j, k < b.1 → bm_rel ρ (bm_get G b k j) (h.2.2.2 k j)) ∧ ∀ k j, b.1 ≤ k → bm_lk b.2.2.2 k j = none
theorem bm_get_put (G : bm_G) (b : bm_H) (k j : Nat) (v : Value) (k' j' : Nat) : bm_get G (bm_put b k j v) k' j' = if k = k' ∧ j = j' then v else bm_get G b k' j' := by
  have e : bm_lk (bm_put b k j v).2.2.2 k' j' = bif Nat.beq k k' && Nat.beq j j' then some v else bm_lk b.2.2.2 k' j' := rfl
  unfold bm_get
  rw [e]
  by_cases h : k = k' ∧ j = j'
  · rw [if_pos h, h.1, h.2, Nat.beq_refl, Nat.beq_refl]
    rfl
  · rw [if_neg h]
    have : (Nat.beq k k' && Nat.beq j j') = false := by
      cases hh : (Nat.beq k k' && Nat.beq j j') with
      | false => rfl
      | true =>
        rw [Bool.and_eq_true] at hh
        exact absurd ⟨am_beq hh.1, am_beq hh.2⟩ h
    rw [this]
    rfl
theorem bm_RR.put {G : bm_G} {ρ : Nat → Int32} {b : bm_H} {h : am_H} {k j : Nat} {a v : Value} (hR : bm_RR G ρ b h) (hk : k < b.1) (ha : bm_rel ρ a v) : bm_RR G ρ (bm_put b k j a) (am_put h k j v) := by
  obtain ⟨h1, h2, h3, h4, h5⟩ := hR
  refine ⟨h1, h2, h3, fun k' j' hk' => ?_, fun k' j' hk' => ?_⟩
  · rw [bm_get_put]
    show bm_rel ρ _ (am_up h.2.2.2 k j v k' j')
    unfold am_up
    by_cases e : k' = k
    · subst e
      rw [if_pos rfl]
      by_cases e2 : j' = j
      · subst e2
        rw [if_pos rfl, if_pos ⟨rfl, rfl⟩]
        exact ha
      · rw [if_neg e2, if_neg (fun q => e2 q.2.symm)]
        exact h4 k' j' hk'
    · rw [if_neg e, if_neg (fun q => e q.1.symm)]
      exact h4 k' j' hk'
  · have e : bm_lk (bm_put b k j a).2.2.2 k' j' = bif Nat.beq k k' && Nat.beq j j' then some a else bm_lk b.2.2.2 k' j' := rfl
    have hk' : b.1 ≤ k' := hk'
    rw [e, bm_bF (by omega)]
    exact h5 k' j' hk'
theorem bm_RR.mk {G : bm_G} {ρ : Nat → Int32} {b : bm_H} {h : am_H} {sh : am_Sh} {N : Nat} {d : Nat → Value} (hR : bm_RR G ρ b h) (hd : ∀ j, bm_rel ρ (bm_dv G b.1 sh j) (d j)) : bm_RR G ρ (bm_mk b sh N) (am_mk h sh N d) := by
  obtain ⟨h1, h2, h3, h4, h5⟩ := hR
  have es : ∀ k, bm_sh G (bm_mk b sh N) k = if b.1 = k then sh else bm_sh G b k := by
    intro k
    have e : bm_ls (bm_mk b sh N).2.2.1 k = bif Nat.beq b.1 k then some sh else bm_ls b.2.2.1 k := rfl
    unfold bm_sh
    rw [e]
    by_cases q : b.1 = k
    · rw [if_pos q, q, Nat.beq_refl]
      rfl
    · rw [if_neg q, bm_bF q]
      rfl
  refine ⟨congrArg (· + 1) h1, congrArg (· + N) h2, fun k hk => ?_, fun k j hk => ?_, fun k j hk => h5 k j (Nat.le_of_succ_le hk)⟩
  · rw [es]
    show (if k = h.1 then sh else h.2.2.1 k) = _
    rw [h1]
    by_cases q : b.1 = k
    · rw [if_pos q, if_pos q.symm]
    · rw [if_neg q, if_neg (Ne.symm q)]
      have hk : k < b.1 + 1 := hk
      exact h3 k (by omega)
  · show bm_rel ρ _ (am_row h.2.2.2 h.1 d k j)
    unfold am_row
    rw [h1]
    by_cases q : k = b.1
    · rw [if_pos q]
      have e : bm_get G (bm_mk b sh N) k j = bm_dv G b.1 sh j := by
        unfold bm_get
        show (match bm_lk b.2.2.2 k j with
          | some v => v
          | none => bm_dv G k (bm_sh G (bm_mk b sh N) k) j) = _
        rw [h5 k j (by omega), es, if_pos q.symm, q]
      rw [e]
      exact hd j
    · rw [if_neg q]
      have hk : k < b.1 + 1 := hk
      have e : bm_get G (bm_mk b sh N) k j = bm_get G b k j := by
        unfold bm_get
        show (match bm_lk b.2.2.2 k j with
          | some v => v
          | none => bm_dv G k (bm_sh G (bm_mk b sh N) k) j) = _
        rw [es, if_neg (Ne.symm q)]
        rfl
      rw [e]
      exact h4 k j (by omega)
theorem bm_isO_of {G : bm_G} {ρ : Nat → Int32} {b : bm_H} {h : am_H} {a ci : Nat} (hR : bm_RR G ρ b h) (hi : bm_isO G b a ci = true) : a < b.1 ∧ am_isO h a ci = true := by
  unfold bm_isO at hi
  simp only [Bool.and_eq_true] at hi
  have h1 := am_blt hi.1.1
  refine ⟨h1, ?_⟩
  unfold am_isO
  rw [hR.2.2.1 a h1, hR.1, hi.1.1, hi.1.2, hi.2]
  rfl
theorem bm_rd_of {G : bm_G} {ρ : Nat → Int32} {b : bm_H} {h : am_H} {a : Nat} {i : Int32} {ok : Nat → Bool} {r : Value} (hR : bm_RR G ρ b h) (hr : bm_rd G b a i ok = some r) : ∃ v, am_rd h a i ok = some v ∧ bm_rel ρ r v := by
  unfold bm_rd at hr
  obtain ⟨c1, hr⟩ := am_cond hr
  obtain ⟨c2, hr⟩ := am_ifn hr
  have c0 := c1
  simp only [Bool.and_eq_true] at c0
  have h1 := am_blt c0.1.1
  cases hr
  refine ⟨_, ?_, hR.2.2.2.1 a _ h1⟩
  unfold am_rd
  rw [hR.2.2.1 a h1, hR.1, c1]
  exact if_neg c2
theorem bm_wr_of {G : bm_G} {ρ : Nat → Int32} {b b' : bm_H} {h : am_H} {a tc : Nat} {i : Int32} {x v : Value} (hR : bm_RR G ρ b h) (hr : bm_wr G b a i tc x = some b') (hx : bm_rel ρ x v) : ∃ h', am_wr h a i tc v = some h' ∧ bm_RR G ρ b' h' := by
  unfold bm_wr at hr
  obtain ⟨c1, hr⟩ := am_cond hr
  obtain ⟨c2, hr⟩ := am_ifn hr
  have c0 := c1
  simp only [Bool.and_eq_true] at c0
  have h1 := am_blt c0.1.1
  cases hr
  refine ⟨_, ?_, hR.put h1 hx⟩
  unfold am_wr
  rw [hR.2.2.1 a h1, hR.1, c1]
  exact if_neg c2
theorem bm_icmp {c : ClassFile.Cond} {off : Int} {n : Nat} {t : Int} {a b w : Nat} {pc : Nat} {ls r : List Value} {h : am_H} {x y : Int32} : am_st (.if_icmp c off, n, t, a, b, w) pc ls (.int y :: .int x :: r) h = bif am_cnd c x y then some (t.toNat, ls, r, h) else some (pc + 3, ls, r, h) := by
  cases c <;> simp only [am_st, am_cnd]
  · by_cases q : x = y <;> simp [q]
  · by_cases q : x = y <;> simp [q]
  · by_cases q : x < y <;> simp [q]
  · by_cases q : y ≤ x <;> simp [q]
  · by_cases q : y < x <;> simp [q]
  · by_cases q : x ≤ y <;> simp [q]
theorem bm_ifc {c : ClassFile.Cond} {off : Int} {n : Nat} {t : Int} {a b w : Nat} {pc : Nat} {ls r : List Value} {h : am_H} {x : Int32} : am_st (.ifCond c off, n, t, a, b, w) pc ls (.int x :: r) h = bif am_cnd c x 0 then some (t.toNat, ls, r, h) else some (pc + 3, ls, r, h) := by
  cases c <;> simp only [am_st, am_cnd]
  · by_cases q : x = 0 <;> simp [q]
  · by_cases q : x = 0 <;> simp [q]
  · by_cases q : x < 0 <;> simp [q]
  · by_cases q : 0 ≤ x <;> simp [q]
  · by_cases q : 0 < x <;> simp [q]
  · by_cases q : x ≤ 0 <;> simp [q]
theorem bm_fok_of {G : bm_G} {ρ : Nat → Int32} {ty : FieldType} {a v : Value} (hG : bm_ok G ρ) (h : bm_fok G ty a = true) (hr : bm_rel ρ a v) : am_fok ty v = true := by
  unfold bm_fok at h
  split at h
  · obtain ⟨x, rfl⟩ := bm_I_int hG h hr
    rfl
  · have : v = a := by
      cases a with
      | retAddr n =>
        exfalso
        revert h
        rename_i hne
        cases ty <;> simp [am_fok] <;> exact absurd rfl (by assumption)
      | _ => exact hr
    rw [this]
    exact h

set_option maxHeartbeats 4000000 in
theorem bm_sim {G : bm_G} {ρ : Nat → Int32} {en : am_E} {pc pc' : Nat} {als ast als' ast' ls st : List Value} {bh bh' : bm_H} {h : am_H} (hG : bm_ok G ρ) (hs : bm_st G en pc als ast bh = some (pc', als', ast', bh')) (hl : bm_rl ρ als ls) (ht : bm_rl ρ ast st) (hR : bm_RR G ρ bh h) : ∃ ls' st' h', am_st en pc ls st h = some (pc', ls', st', h') ∧ bm_rl ρ als' ls' ∧ bm_rl ρ ast' st' ∧ bm_RR G ρ bh' h' := by
  obtain ⟨i, n, t, ea, eb, ew⟩ := en
  cases i with
  | aconst_null =>
    simp only [bm_st] at hs
    cases hs
    exact ⟨_, _, _, rfl, hl, ⟨rfl, ht⟩, hR⟩
  | iconst x0 =>
    simp only [bm_st] at hs
    cases hs
    exact ⟨_, _, _, rfl, hl, ⟨rfl, ht⟩, hR⟩
  | bipush x0 =>
    simp only [bm_st] at hs
    cases hs
    exact ⟨_, _, _, rfl, hl, ⟨rfl, ht⟩, hR⟩
  | sipush x0 =>
    simp only [bm_st] at hs
    cases hs
    exact ⟨_, _, _, rfl, hl, ⟨rfl, ht⟩, hR⟩
  | lconst x0 =>
    simp only [bm_st] at hs
    cases hs
    exact ⟨_, _, _, rfl, hl, ⟨rfl, ht⟩, hR⟩
  | ldc2_w x0 =>
    simp only [bm_st] at hs
    cases hs
    exact ⟨_, _, _, rfl, hl, ⟨rfl, ht⟩, hR⟩
  | getstatic x0 =>
    simp only [bm_st] at hs
    cases hs
    exact ⟨_, _, _, rfl, hl, ⟨rfl, ht⟩, hR⟩
  | ldc x0 =>
    simp only [bm_st] at hs
    obtain ⟨h1, hs⟩ := am_cond hs
    cases hs
    refine ⟨ls, _ :: _, h, ?_, hl, ⟨rfl, ht⟩, hR⟩
    simp only [am_st]
    rw [h1]
    rfl
  | ldc_w x0 =>
    simp only [bm_st] at hs
    obtain ⟨h1, hs⟩ := am_cond hs
    cases hs
    refine ⟨ls, _ :: _, h, ?_, hl, ⟨rfl, ht⟩, hR⟩
    simp only [am_st]
    rw [h1]
    rfl
  | iload i =>
    simp only [bm_st] at hs
    split at hs
    · rename_i a hi
      obtain ⟨h1, hs⟩ := am_cond hs
      cases hs
      obtain ⟨v, hv, hr⟩ := hl.get hi
      obtain ⟨x, rfl⟩ := bm_I_int hG h1 hr
      refine ⟨ls, .int x :: st, h, ?_, hl, ⟨hr, ht⟩, hR⟩
      simp only [am_st]
      rw [hv]
    · cases hs
  | iload_n i =>
    simp only [bm_st] at hs
    split at hs
    · rename_i a hi
      obtain ⟨h1, hs⟩ := am_cond hs
      cases hs
      obtain ⟨v, hv, hr⟩ := hl.get hi
      obtain ⟨x, rfl⟩ := bm_I_int hG h1 hr
      refine ⟨ls, .int x :: st, h, ?_, hl, ⟨hr, ht⟩, hR⟩
      simp only [am_st]
      rw [hv]
    · cases hs
  | lload i =>
    simp only [bm_st] at hs
    split at hs
    · rename_i a hi
      obtain ⟨h1, hs⟩ := am_cond hs
      cases hs
      obtain ⟨v, hv, hr⟩ := hl.get hi
      obtain ⟨p, hp⟩ := Option.isSome_iff_exists.mp h1
      obtain ⟨x, rfl, -⟩ := bm_lng hG hp hr
      refine ⟨ls, .long x :: st, h, ?_, hl, ⟨hr, ht⟩, hR⟩
      simp only [am_st]
      rw [hv]
    · cases hs
  | lload_n i =>
    simp only [bm_st] at hs
    split at hs
    · rename_i a hi
      obtain ⟨h1, hs⟩ := am_cond hs
      cases hs
      obtain ⟨v, hv, hr⟩ := hl.get hi
      obtain ⟨p, hp⟩ := Option.isSome_iff_exists.mp h1
      obtain ⟨x, rfl, -⟩ := bm_lng hG hp hr
      refine ⟨ls, .long x :: st, h, ?_, hl, ⟨hr, ht⟩, hR⟩
      simp only [am_st]
      rw [hv]
    · cases hs
  | aload i =>
    simp only [bm_st] at hs
    split at hs
    · rename_i x hi
      cases hs
      obtain ⟨v, hv, hr⟩ := hl.get hi
      cases hr
      refine ⟨ls, _ :: _, h, ?_, hl, ⟨rfl, ht⟩, hR⟩
      simp only [am_st]
      rw [hv]
    · rename_i hi
      cases hs
      obtain ⟨v, hv, hr⟩ := hl.get hi
      cases hr
      refine ⟨ls, _ :: _, h, ?_, hl, ⟨rfl, ht⟩, hR⟩
      simp only [am_st]
      rw [hv]
    · cases hs
  | aload_n i =>
    simp only [bm_st] at hs
    split at hs
    · rename_i x hi
      cases hs
      obtain ⟨v, hv, hr⟩ := hl.get hi
      cases hr
      refine ⟨ls, _ :: _, h, ?_, hl, ⟨rfl, ht⟩, hR⟩
      simp only [am_st]
      rw [hv]
    · rename_i hi
      cases hs
      obtain ⟨v, hv, hr⟩ := hl.get hi
      cases hr
      refine ⟨ls, _ :: _, h, ?_, hl, ⟨rfl, ht⟩, hR⟩
      simp only [am_st]
      rw [hv]
    · cases hs
  | istore i =>
    simp only [bm_st] at hs
    split at hs
    · rename_i a r
      obtain ⟨h1, hs⟩ := am_cond hs
      rw [Bool.and_eq_true] at h1
      cases hs
      obtain ⟨v, vs, rfl, hr, t1⟩ := ht.uncons
      obtain ⟨x, rfl⟩ := bm_I_int hG h1.1 hr
      refine ⟨_, vs, h, ?_, hl.set1 hr, t1, hR⟩
      simp only [am_st]
      rw [← hl.len, h1.2]
      rfl
    · cases hs
  | istore_n i =>
    simp only [bm_st] at hs
    split at hs
    · rename_i a r
      obtain ⟨h1, hs⟩ := am_cond hs
      rw [Bool.and_eq_true] at h1
      cases hs
      obtain ⟨v, vs, rfl, hr, t2⟩ := ht.uncons
      obtain ⟨x, rfl⟩ := bm_I_int hG h1.1 hr
      refine ⟨_, vs, h, ?_, hl.set1 hr, t2, hR⟩
      simp only [am_st]
      rw [← hl.len, h1.2]
      rfl
    · cases hs
  | astore i =>
    simp only [bm_st] at hs
    split at hs
    · rename_i x r
      obtain ⟨h1, hs⟩ := am_cond hs
      cases hs
      obtain ⟨v, vs, rfl, hr, t3⟩ := ht.uncons
      cases hr
      refine ⟨_, vs, h, ?_, hl.set1 (a := .ref x) (v := .ref x) rfl, t3, hR⟩
      simp only [am_st]
      rw [← hl.len, h1]
      rfl
    · rename_i r
      obtain ⟨h1, hs⟩ := am_cond hs
      cases hs
      obtain ⟨v, vs, rfl, hr, t4⟩ := ht.uncons
      cases hr
      refine ⟨_, vs, h, ?_, hl.set1 (a := .null) (v := .null) rfl, t4, hR⟩
      simp only [am_st]
      rw [← hl.len, h1]
      rfl
    · cases hs
  | astore_n i =>
    simp only [bm_st] at hs
    split at hs
    · rename_i x r
      obtain ⟨h1, hs⟩ := am_cond hs
      cases hs
      obtain ⟨v, vs, rfl, hr, t5⟩ := ht.uncons
      cases hr
      refine ⟨_, vs, h, ?_, hl.set1 (a := .ref x) (v := .ref x) rfl, t5, hR⟩
      simp only [am_st]
      rw [← hl.len, h1]
      rfl
    · rename_i r
      obtain ⟨h1, hs⟩ := am_cond hs
      cases hs
      obtain ⟨v, vs, rfl, hr, t6⟩ := ht.uncons
      cases hr
      refine ⟨_, vs, h, ?_, hl.set1 (a := .null) (v := .null) rfl, t6, hR⟩
      simp only [am_st]
      rw [← hl.len, h1]
      rfl
    · cases hs
  | iinc i x0 =>
    simp only [bm_st] at hs
    split at hs
    · rename_i x hi
      cases hs
      obtain ⟨v, hv, hr⟩ := hl.get hi
      cases hr
      refine ⟨_, st, h, ?_, hl.set1 (a := .int (x + Int32.ofInt x0)) (v := .int (x + Int32.ofInt x0)) rfl, ht, hR⟩
      simp only [am_st]
      rw [hv]
    · cases hs
  | iadd =>
    simp only [bm_st] at hs
    split at hs
    · rename_i y x r
      split at hs
      · rename_i v hv
        cases hs
        obtain ⟨w, vs, rfl, hy, t7⟩ := ht.uncons
        obtain ⟨u, vs, rfl, hx, t8⟩ := t7.uncons
        obtain ⟨x1, y1, rfl, rfl, hr⟩ := bm_add_spec hG hv hx hy
        exact ⟨ls, _ :: _, h, rfl, hl, ⟨hr, t8⟩, hR⟩
      · cases hs
    · cases hs
  | iand =>
    simp only [bm_st] at hs
    split at hs
    · rename_i y x r
      split at hs
      · rename_i v hv
        cases hs
        obtain ⟨w, vs, rfl, hy, t9⟩ := ht.uncons
        obtain ⟨u, vs, rfl, hx, t10⟩ := t9.uncons
        obtain ⟨x1, y1, rfl, rfl, hr⟩ := bm_and_spec hG hv hx hy
        exact ⟨ls, _ :: _, h, rfl, hl, ⟨hr, t10⟩, hR⟩
      · cases hs
    · cases hs
  | isub =>
    simp only [bm_st] at hs
    split at hs
    · rename_i y x r
      split at hs
      · rename_i v hv
        cases hs
        obtain ⟨w, vs, rfl, hy, t11⟩ := ht.uncons
        obtain ⟨u, vs, rfl, hx, t12⟩ := t11.uncons
        obtain ⟨x1, y1, rfl, rfl, hr⟩ := bm_bi_spec hG hv hx hy
        exact ⟨ls, _ :: _, h, rfl, hl, ⟨hr, t12⟩, hR⟩
      · cases hs
    · cases hs
  | imul =>
    simp only [bm_st] at hs
    split at hs
    · rename_i y x r
      split at hs
      · rename_i v hv
        cases hs
        obtain ⟨w, vs, rfl, hy, t13⟩ := ht.uncons
        obtain ⟨u, vs, rfl, hx, t14⟩ := t13.uncons
        obtain ⟨x1, y1, rfl, rfl, hr⟩ := bm_bi_spec hG hv hx hy
        exact ⟨ls, _ :: _, h, rfl, hl, ⟨hr, t14⟩, hR⟩
      · cases hs
    · cases hs
  | ior =>
    simp only [bm_st] at hs
    split at hs
    · rename_i y x r
      split at hs
      · rename_i v hv
        cases hs
        obtain ⟨w, vs, rfl, hy, t15⟩ := ht.uncons
        obtain ⟨u, vs, rfl, hx, t16⟩ := t15.uncons
        obtain ⟨x1, y1, rfl, rfl, hr⟩ := bm_bi_spec hG hv hx hy
        exact ⟨ls, _ :: _, h, rfl, hl, ⟨hr, t16⟩, hR⟩
      · cases hs
    · cases hs
  | ixor =>
    simp only [bm_st] at hs
    split at hs
    · rename_i y x r
      split at hs
      · rename_i v hv
        cases hs
        obtain ⟨w, vs, rfl, hy, t17⟩ := ht.uncons
        obtain ⟨u, vs, rfl, hx, t18⟩ := t17.uncons
        obtain ⟨x1, y1, rfl, rfl, hr⟩ := bm_bi_spec hG hv hx hy
        exact ⟨ls, _ :: _, h, rfl, hl, ⟨hr, t18⟩, hR⟩
      · cases hs
    · cases hs
  | ishl =>
    simp only [bm_st] at hs
    split at hs
    · rename_i y x r
      split at hs
      · rename_i v hv
        cases hs
        obtain ⟨w, vs, rfl, hy, t19⟩ := ht.uncons
        obtain ⟨u, vs, rfl, hx, t20⟩ := t19.uncons
        obtain ⟨x1, y1, rfl, rfl, hr⟩ := bm_bi_spec hG hv hx hy
        exact ⟨ls, _ :: _, h, rfl, hl, ⟨hr, t20⟩, hR⟩
      · cases hs
    · cases hs
  | ishr =>
    simp only [bm_st] at hs
    split at hs
    · rename_i y x r
      split at hs
      · rename_i v hv
        cases hs
        obtain ⟨w, vs, rfl, hy, t21⟩ := ht.uncons
        obtain ⟨u, vs, rfl, hx, t22⟩ := t21.uncons
        obtain ⟨x1, y1, rfl, rfl, hr⟩ := bm_bi_spec hG hv hx hy
        exact ⟨ls, _ :: _, h, rfl, hl, ⟨hr, t22⟩, hR⟩
      · cases hs
    · cases hs
  | iushr =>
    simp only [bm_st] at hs
    split at hs
    · rename_i y x r
      split at hs
      · rename_i v hv
        cases hs
        obtain ⟨w, vs, rfl, hy, t23⟩ := ht.uncons
        obtain ⟨u, vs, rfl, hx, t24⟩ := t23.uncons
        obtain ⟨x1, y1, rfl, rfl, hr⟩ := bm_bi_spec hG hv hx hy
        exact ⟨ls, _ :: _, h, rfl, hl, ⟨hr, t24⟩, hR⟩
      · cases hs
    · cases hs
  | lcmp =>
    simp only [bm_st] at hs
    split at hs
    · rename_i y x r
      split at hs
      · rename_i v hv
        cases hs
        obtain ⟨w, vs, rfl, hy, t25⟩ := ht.uncons
        obtain ⟨u, vs, rfl, hx, t26⟩ := t25.uncons
        obtain ⟨x1, y1, rfl, rfl, hr⟩ := bm_lc_spec hG hv hx hy
        exact ⟨ls, _ :: _, h, rfl, hl, ⟨hr, t26⟩, hR⟩
      · cases hs
    · cases hs
  | idiv =>
    simp only [bm_st] at hs
    split at hs
    · rename_i y x r
      obtain ⟨h1, hs⟩ := am_ifn hs
      cases hs
      obtain ⟨w, vs, rfl, hy, t27⟩ := ht.uncons
      obtain ⟨u, vs, rfl, hx, t28⟩ := t27.uncons
      cases hx
      cases hy
      refine ⟨ls, _ :: _, h, ?_, hl, ⟨rfl, t28⟩, hR⟩
      simp only [am_st]
      rw [if_neg h1]
    · cases hs
  | lsub =>
    simp only [bm_st] at hs
    split at hs
    · rename_i y x r
      cases hs
      obtain ⟨w, vs, rfl, hy, t29⟩ := ht.uncons
      obtain ⟨u, vs, rfl, hx, t30⟩ := t29.uncons
      cases hx
      cases hy
      exact ⟨ls, _ :: _, h, rfl, hl, ⟨rfl, t30⟩, hR⟩
    · cases hs
  | lshl =>
    simp only [bm_st] at hs
    split at hs
    · rename_i y x r
      cases hs
      obtain ⟨w, vs, rfl, hy, t31⟩ := ht.uncons
      obtain ⟨u, vs, rfl, hx, t32⟩ := t31.uncons
      cases hx
      cases hy
      exact ⟨ls, _ :: _, h, rfl, hl, ⟨rfl, t32⟩, hR⟩
    · cases hs
  | i2l =>
    simp only [bm_st] at hs
    split at hs
    · rename_i x r
      cases hs
      obtain ⟨u, vs, rfl, hx, t33⟩ := ht.uncons
      cases hx
      exact ⟨ls, _ :: _, h, rfl, hl, ⟨rfl, t33⟩, hR⟩
    · rename_i k r
      obtain ⟨h1, hs⟩ := am_cond hs
      rw [Bool.and_eq_true] at h1
      have h2 := am_blt h1.1
      have h3 := am_blt h1.2
      cases hs
      obtain ⟨u, vs, rfl, hx, t34⟩ := ht.uncons
      rcases bm_rel_n hx with ⟨q, -⟩ | ⟨-, -, q⟩ | ⟨q, -⟩ | ⟨q, -⟩ | ⟨q, -⟩ | ⟨q, -⟩
      · omega
      · subst q
        refine ⟨ls, _ :: _, h, rfl, hl, ⟨?_, t34⟩, hR⟩
        unfold bm_rel
        simp only
        rw [if_neg (by omega), if_neg (by omega), if_neg (by omega), if_neg (by omega), if_neg (by omega), show 1999 + k - 2000 = k - 1 by omega]
      · omega
      · omega
      · omega
      · omega
    · cases hs
  | i2b =>
    simp only [bm_st] at hs
    split at hs
    · rename_i a r
      obtain ⟨h1, hs⟩ := am_cond hs
      obtain ⟨u, vs, rfl, hx, t35⟩ := ht.uncons
      obtain ⟨x, rfl⟩ := bm_I_int hG h1 hx
      split at hs
      · rename_i x2 hc
        cases hs
        have hc := bm_c_eq hc
        subst hc
        cases hx
        exact ⟨ls, _ :: _, h, rfl, hl, ⟨rfl, t35⟩, hR⟩
      · cases hs
        exact ⟨ls, _ :: _, h, rfl, hl, ⟨bm_top _, t35⟩, hR⟩
    · cases hs
  | dup =>
    simp only [bm_st] at hs
    split at hs
    · rename_i a r
      obtain ⟨h1, hs⟩ := am_cond hs
      cases hs
      obtain ⟨u, vs, rfl, hx, t36⟩ := ht.uncons
      refine ⟨ls, _ :: _ :: _, h, ?_, hl, ⟨hx, hx, t36⟩, hR⟩
      simp only [am_st]
      rw [bm_cat_eq hx, h1]
      rfl
    · cases hs
  | pop =>
    simp only [bm_st] at hs
    split at hs
    · rename_i a r
      obtain ⟨h1, hs⟩ := am_cond hs
      cases hs
      obtain ⟨u, vs, rfl, hx, t37⟩ := ht.uncons
      refine ⟨ls, _, h, ?_, hl, t37, hR⟩
      simp only [am_st]
      rw [bm_cat_eq hx, h1]
      rfl
    · cases hs
  | goto x0 =>
    simp only [bm_st] at hs
    cases hs
    exact ⟨_, _, _, rfl, hl, ht, hR⟩
  | ifCond c x0 =>
    simp only [bm_st] at hs
    split at hs
    · rename_i x r
      split at hs
      · rename_i b hb
        obtain ⟨u, vs, rfl, hx, t38⟩ := ht.uncons
        obtain ⟨x1, y1, rfl, hy, hc⟩ := bm_br_spec hG hb hx (show bm_rel ρ (.int 0) (.int 0) from rfl)
        cases hy
        cases b
        · cases hs
          refine ⟨ls, vs, h, ?_, hl, t38, hR⟩
          rw [bm_ifc, hc]
          rfl
        · cases hs
          refine ⟨ls, vs, h, ?_, hl, t38, hR⟩
          rw [bm_ifc, hc]
          rfl
      · cases hs
    · cases hs
  | if_icmp c x0 =>
    simp only [bm_st] at hs
    split at hs
    · rename_i y x r
      split at hs
      · rename_i b hb
        obtain ⟨w, vs, rfl, hy, t39⟩ := ht.uncons
        obtain ⟨u, vs, rfl, hx, t40⟩ := t39.uncons
        obtain ⟨x1, y1, rfl, rfl, hc⟩ := bm_br_spec hG hb hx hy
        cases b
        · cases hs
          refine ⟨ls, vs, h, ?_, hl, t40, hR⟩
          rw [bm_icmp, hc]
          rfl
        · cases hs
          refine ⟨ls, vs, h, ?_, hl, t40, hR⟩
          rw [bm_icmp, hc]
          rfl
      · cases hs
    · cases hs
  | ifnull x0 =>
    simp only [bm_st] at hs
    split at hs
    · cases hs
      obtain ⟨u, vs, rfl, hx, t41⟩ := ht.uncons
      cases hx
      exact ⟨ls, _, h, rfl, hl, t41, hR⟩
    · cases hs
      obtain ⟨u, vs, rfl, hx, t42⟩ := ht.uncons
      cases hx
      exact ⟨ls, _, h, rfl, hl, t42, hR⟩
    · cases hs
  | ifnonnull x0 =>
    simp only [bm_st] at hs
    split at hs
    · cases hs
      obtain ⟨u, vs, rfl, hx, t43⟩ := ht.uncons
      cases hx
      exact ⟨ls, _, h, rfl, hl, t43, hR⟩
    · cases hs
      obtain ⟨u, vs, rfl, hx, t44⟩ := ht.uncons
      cases hx
      exact ⟨ls, _, h, rfl, hl, t44, hR⟩
    · cases hs
  | tableswitch d lo hi offs =>
    simp only [bm_st] at hs
    split at hs
    · rename_i a r
      obtain ⟨u, vs, rfl, hx, t45⟩ := ht.uncons
      split at hs
      · rename_i x hc
        have hc := bm_c_eq hc
        subst hc
        cases hx
        split at hs
        · rename_i hq
          cases hs
          refine ⟨ls, vs, h, ?_, hl, t45, hR⟩
          simp only [am_st]
          rw [if_pos hq]
        · rename_i hq
          split at hs
          · rename_i o ho
            cases hs
            refine ⟨ls, vs, h, ?_, hl, t45, hR⟩
            simp only [am_st]
            rw [if_neg hq, ho]
          · cases hs
      · split at hs
        · rename_i q hq
          obtain ⟨x, rfl, h1, h2⟩ := bm_int hG hq hx
          split at hs
          · rename_i h3
            cases hs
            refine ⟨ls, vs, h, ?_, hl, t45, hR⟩
            simp only [am_st]
            rw [if_pos (by omega)]
          · cases hs
        · cases hs
    · cases hs
  | getfield x0 =>
    simp only [bm_st] at hs
    split at hs
    · rename_i a r
      obtain ⟨h1, hs⟩ := am_cond hs
      cases hs
      obtain ⟨u, vs, rfl, hx, t46⟩ := ht.uncons
      cases hx
      obtain ⟨h2, h3⟩ := bm_isO_of hR h1
      refine ⟨ls, _ :: _, h, ?_, hl, ⟨hR.2.2.2.1 a eb h2, t46⟩, hR⟩
      simp only [am_st]
      rw [h3]
      rfl
    · cases hs
  | putfield x0 =>
    simp only [bm_st] at hs
    split at hs
    · rename_i v a r
      obtain ⟨h1, hs⟩ := am_cond hs
      rw [Bool.and_eq_true] at h1
      cases hs
      obtain ⟨w, vs, rfl, hv, t47⟩ := ht.uncons
      obtain ⟨u, vs, rfl, hx, t48⟩ := t47.uncons
      cases hx
      obtain ⟨h2, h3⟩ := bm_isO_of hR h1.1
      refine ⟨ls, vs, _, ?_, hl, t48, hR.put h2 hv⟩
      simp only [am_st]
      rw [h3, bm_fok_of hG h1.2 hv]
      rfl
    · cases hs
  | iaload =>
    simp only [bm_st] at hs
    split at hs
    · rename_i i a r
      split at hs
      · rename_i v hv
        cases hs
        obtain ⟨w, vs, rfl, hi, t49⟩ := ht.uncons
        obtain ⟨u, vs, rfl, hx, t50⟩ := t49.uncons
        cases hi
        cases hx
        obtain ⟨x, h1, h2⟩ := bm_rd_of hR hv
        refine ⟨ls, _ :: _, h, ?_, hl, ⟨h2, t50⟩, hR⟩
        simp only [am_st]
        rw [h1]
      · cases hs
    · cases hs
  | baload =>
    simp only [bm_st] at hs
    split at hs
    · rename_i i a r
      split at hs
      · rename_i v hv
        cases hs
        obtain ⟨w, vs, rfl, hi, t51⟩ := ht.uncons
        obtain ⟨u, vs, rfl, hx, t52⟩ := t51.uncons
        cases hi
        cases hx
        obtain ⟨x, h1, h2⟩ := bm_rd_of hR hv
        refine ⟨ls, _ :: _, h, ?_, hl, ⟨h2, t52⟩, hR⟩
        simp only [am_st]
        rw [h1]
      · cases hs
    · cases hs
  | aaload =>
    simp only [bm_st] at hs
    split at hs
    · rename_i i a r
      split at hs
      · rename_i v hv
        cases hs
        obtain ⟨w, vs, rfl, hi, t53⟩ := ht.uncons
        obtain ⟨u, vs, rfl, hx, t54⟩ := t53.uncons
        cases hi
        cases hx
        obtain ⟨x, h1, h2⟩ := bm_rd_of hR hv
        refine ⟨ls, _ :: _, h, ?_, hl, ⟨h2, t54⟩, hR⟩
        simp only [am_st]
        rw [h1]
      · cases hs
    · cases hs
  | iastore =>
    simp only [bm_st] at hs
    split at hs
    · rename_i v i a r
      obtain ⟨h1, hs⟩ := am_cond hs
      split at hs
      · rename_i b2 hb
        cases hs
        obtain ⟨z, vs, rfl, hv, t55⟩ := ht.uncons
        obtain ⟨w, vs, rfl, hi, t56⟩ := t55.uncons
        obtain ⟨u, vs, rfl, hx, t57⟩ := t56.uncons
        cases hi
        cases hx
        obtain ⟨x, rfl⟩ := bm_I_int hG h1 hv
        obtain ⟨h2, q1, q2⟩ := bm_wr_of hR hb hv
        refine ⟨ls, vs, h2, ?_, hl, t57, q2⟩
        simp only [am_st]
        rw [q1]
      · cases hs
    · cases hs
  | bastore =>
    simp only [bm_st] at hs
    split at hs
    · rename_i v i a r
      cases hcd : Nat.beq (bm_sh G bh a).2.1 1 with
      | true =>
        rw [hcd] at hs
        obtain ⟨h1, hs⟩ := am_cond hs
        split at hs
        · rename_i b2 hb
          cases hs
          obtain ⟨z, vs, rfl, hv, t58⟩ := ht.uncons
          obtain ⟨w, vs, rfl, hi, t59⟩ := t58.uncons
          obtain ⟨u, vs, rfl, hx, t60⟩ := t59.uncons
          cases hi
          cases hx
          obtain ⟨x, rfl⟩ := bm_I_int hG h1 hv
          have hv2 : bm_rel ρ (match bm_c v with
              | some x => .int x.toInt8.toInt32
              | none => .retAddr 1000) (.int x.toInt8.toInt32) := by
            split
            · rename_i x2 hc
              have hc := bm_c_eq hc
              subst hc
              cases hv
              rfl
            · exact bm_top _
          obtain ⟨h2, q1, q2⟩ := bm_wr_of hR hb hv2
          refine ⟨ls, vs, h2, ?_, hl, t60, q2⟩
          obtain ⟨w1, -, w3, -⟩ := am_wr_spec q1
          simp only [am_st]
          rw [w3]
          show (match am_wr h a i 1 (Value.int x.toInt8.toInt32) with
            | some h' => some (pc + 1, ls, vs, h')
            | none => none) = _
          rw [q1]
        · cases hs
      | false =>
        rw [hcd] at hs
        simp only [cond_false] at hs
        split at hs
        · rename_i x hc
          have hc := bm_c_eq hc
          subst hc
          split at hs
          · rename_i b2 hb
            cases hs
            obtain ⟨z, vs, rfl, hv, u1⟩ := ht.uncons
            obtain ⟨w, vs, rfl, hi, u2⟩ := u1.uncons
            obtain ⟨u, vs, rfl, hx, u3⟩ := u2.uncons
            cases hi
            cases hx
            cases hv
            obtain ⟨h2, q1, q2⟩ := bm_wr_of hR hb (show bm_rel ρ (.int (x &&& 1)) (.int (x &&& 1)) from rfl)
            refine ⟨ls, vs, h2, ?_, hl, u3, q2⟩
            obtain ⟨w1, -, w3, -⟩ := am_wr_spec q1
            simp only [am_st]
            rw [w3]
            show (match am_wr h a i 2 (Value.int (x &&& 1)) with
              | some h' => some (pc + 1, ls, vs, h')
              | none => none) = _
            rw [q1]
          · cases hs
        · cases hs
    · cases hs
  | aastore =>
    simp only [bm_st] at hs
    split at hs
    · rename_i v i a r
      obtain ⟨h1, hs⟩ := am_cond hs
      rw [Bool.and_eq_true] at h1
      split at hs
      · rename_i b2 hb
        cases hs
        obtain ⟨z, vs, rfl, hv, t62⟩ := ht.uncons
        obtain ⟨w, vs, rfl, hi, t63⟩ := t62.uncons
        obtain ⟨u, vs, rfl, hx, t64⟩ := t63.uncons
        cases hi
        cases hx
        cases hv
        obtain ⟨h3, h4⟩ := bm_isO_of hR h1.1
        rw [← hR.2.2.1 v h3] at h1 h4 hb
        obtain ⟨h2, q1, q2⟩ := bm_wr_of hR hb (show bm_rel ρ (.ref v) (.ref v) from rfl)
        refine ⟨ls, vs, h2, ?_, hl, t64, q2⟩
        simp only [am_st]
        rw [h4, h1.2, q1]
        rfl
      · cases hs
    · cases hs
  | arraylength =>
    simp only [bm_st] at hs
    split at hs
    · rename_i a r
      obtain ⟨h1, hs⟩ := am_cond hs
      cases hs
      obtain ⟨u, vs, rfl, hx, t65⟩ := ht.uncons
      cases hx
      have c0 := h1
      simp only [Bool.and_eq_true] at c0
      have h2 := am_blt c0.1
      rw [← hR.2.2.1 a h2] at h1 ⊢
      rw [← hR.1] at h1
      refine ⟨ls, _ :: _, h, ?_, hl, ⟨rfl, t65⟩, hR⟩
      simp only [am_st, am_len]
      rw [h1]
      rfl
    · cases hs
  | new x0 =>
    simp only [bm_st] at hs
    cases hs
    refine ⟨ls, .ref h.1 :: st, _, rfl, hl, ⟨?_, ht⟩, hR.mk (fun j => ?_)⟩
    · rw [hR.1]
      rfl
    · show bm_rel ρ (defaultValue (am_ty ea j)) (defaultValue (am_ty ea j))
      cases am_ty ea j <;> rfl
  | newarray x0 =>
    simp only [bm_st] at hs
    split at hs
    · rename_i m r
      obtain ⟨h1, hs⟩ := am_ifn hs
      cases hs
      obtain ⟨u, vs, rfl, hx, t66⟩ := ht.uncons
      cases hx
      refine ⟨ls, .ref h.1 :: vs, _, ?_, hl, ⟨?_, t66⟩, hR.mk (d := fun _ => am_dv ea) (fun j => ?_)⟩
      · simp only [am_st]
        rw [if_neg h1]
      · rw [hR.1]
        rfl
      · show bm_rel ρ (am_dv ea) (am_dv ea)
        rcases ea with _ | _ | _ | _ | _ <;> rfl
    · cases hs
  | anewarray x0 =>
    simp only [bm_st] at hs
    split at hs
    · rename_i m r
      obtain ⟨h1, hs⟩ := am_ifn hs
      cases hs
      obtain ⟨u, vs, rfl, hx, t67⟩ := ht.uncons
      cases hx
      refine ⟨ls, .ref h.1 :: vs, _, ?_, hl, ⟨?_, t67⟩, hR.mk (d := fun _ => .null) (fun j => ?_)⟩
      · simp only [am_st]
        rw [if_neg (fun q => h1 (q.imp id Or.inl))]
      · rw [hR.1]
        rfl
      · show bm_rel ρ (am_dv ea) .null
        have h4 : ¬ ea < 4 := fun q => h1 (Or.inr (Or.inr q))
        obtain ⟨k, rfl⟩ : ∃ k, ea = k + 4 := ⟨ea - 4, by omega⟩
        rfl
    · cases hs
  | _ => exact absurd hs (fun q => by cases q)
