/-! THE PLAIN MACHINE: cells by numbers, values in cells, locals and a stack as lists; a step and a run as functions -/
abbrev am_Sh : Type := Nat × Nat × Nat
abbrev am_H : Type := Nat × Nat × (Nat → am_Sh) × (Nat → Nat → Value)
abbrev am_R : Type := Option (Nat × List Value × List Value × am_H)
def am_n0 : Nat := 40
def am_ph : Value := Value.retAddr 0
def am_kill (ls : List Value) (i : Nat) : List Value := match i with
  | 0 => ls
  | j + 1 => (match ls[j]? with
    | some v => bif Nat.beq v.category 2 then ls.set j am_ph else ls
    | none => ls)
def am_set1 (ls : List Value) (i : Nat) (v : Value) : List Value := (am_kill ls i).set i v
def am_set2 (ls : List Value) (i : Nat) (v : Value) : List Value := ((am_kill ls i).set i v).set (i + 1) am_ph
def am_up (V : Nat → Nat → Value) (k j : Nat) (v : Value) : Nat → Nat → Value := fun a b => if a = k then (if b = j then v else V a b) else V a b
def am_row (V : Nat → Nat → Value) (k : Nat) (d : Nat → Value) : Nat → Nat → Value := fun a b => if a = k then d b else V a b
def am_put (h : am_H) (k j : Nat) (v : Value) : am_H := (h.1, h.2.1, h.2.2.1, am_up h.2.2.2 k j v)
def am_mk (h : am_H) (sh : am_Sh) (N : Nat) (d : Nat → Value) : am_H := (h.1 + 1, h.2.1 + N, (fun k => if k = h.1 then sh else h.2.2.1 k), am_row h.2.2.2 h.1 d)
def am_fok (ty : FieldType) (v : Value) : Bool := match ty, v with
  | .int, .int _ => true
  | .boolean, .int x => x == 0 || x == 1
  | .long, .long _ => true
  | .object _, .null => true
  | .object _, .ref _ => true
  | .array _, .null => true
  | .array _, .ref _ => true
  | _, _ => false
/-- reading a place of an array whose elements' code is tc -/
def am_rd (h : am_H) (a : Nat) (i : Int32) (ok : Nat → Bool) : Option Value :=
  bif Nat.blt a h.1 && (Nat.beq (h.2.2.1 a).1 1 || Nat.beq (h.2.2.1 a).1 2) && ok (h.2.2.1 a).2.1 then
    (if i < 0 ∨ (h.2.2.1 a).2.2 ≤ i.toNatClampNeg then none else some (h.2.2.2 a i.toNatClampNeg))
  else none
def am_wr (h : am_H) (a : Nat) (i : Int32) (tc : Nat) (v : Value) : Option am_H :=
  bif Nat.blt a h.1 && Nat.beq (h.2.2.1 a).1 1 && Nat.beq (h.2.2.1 a).2.1 tc then
    (if i < 0 ∨ (h.2.2.1 a).2.2 ≤ i.toNatClampNeg then none else some (am_put h a i.toNatClampNeg v))
  else none
def am_isO (h : am_H) (a ci : Nat) : Bool := Nat.blt a h.1 && Nat.beq (h.2.2.1 a).1 0 && Nat.beq (h.2.2.1 a).2.1 ci
def am_len (h : am_H) (a : Nat) : Option Nat := bif Nat.blt a h.1 && (Nat.beq (h.2.2.1 a).1 1 || Nat.beq (h.2.2.1 a).1 2) then some (h.2.2.1 a).2.2 else none
def am_dv (tc : Nat) : Value := match tc with
  | 0 => .int 0
  | 1 => .int 0
  | 2 => .int 0
  | 3 => .long 0
  | _ => .null
def am_cs (st : List Value) : Nat := (st.map fun v => v.category).sum
def am_st (e : am_E) (pc : Nat) (ls st : List Value) (h : am_H) : am_R := match e.1 with
  | .aconst_null => some (pc + 1, ls, .null :: st, h)
  | .iconst n => some (pc + 1, ls, .int (Int32.ofInt n) :: st, h)
  | .bipush n => some (pc + 2, ls, .int (Int8.ofInt n).toInt32 :: st, h)
  | .sipush n => some (pc + 3, ls, .int (Int16.ofInt n).toInt32 :: st, h)
  | .lconst n => some (pc + 1, ls, .long (Int64.ofNat n) :: st, h)
  | .iload i => (match ls[i]? with
    | some (.int x) => some (pc + 2, ls, .int x :: st, h)
    | _ => none)
  | .iload_n i => (match ls[i.val]? with
    | some (.int x) => some (pc + 1, ls, .int x :: st, h)
    | _ => none)
  | .lload i => (match ls[i]? with
    | some (.long x) => some (pc + 2, ls, .long x :: st, h)
    | _ => none)
  | .lload_n i => (match ls[i.val]? with
    | some (.long x) => some (pc + 1, ls, .long x :: st, h)
    | _ => none)
  | .aload i => (match ls[i]? with
    | some (.ref x) => some (pc + 2, ls, .ref x :: st, h)
    | some .null => some (pc + 2, ls, .null :: st, h)
    | _ => none)
  | .aload_n i => (match ls[i.val]? with
    | some (.ref x) => some (pc + 1, ls, .ref x :: st, h)
    | some .null => some (pc + 1, ls, .null :: st, h)
    | _ => none)
  | .istore i => (match st with
    | .int x :: r => bif Nat.blt i ls.length then some (pc + 2, am_set1 ls i (.int x), r, h) else none
    | _ => none)
  | .istore_n i => (match st with
    | .int x :: r => bif Nat.blt i.val ls.length then some (pc + 1, am_set1 ls i.val (.int x), r, h) else none
    | _ => none)
  | .lstore i => (match st with
    | .long x :: r => bif Nat.blt (i + 1) ls.length then some (pc + 2, am_set2 ls i (.long x), r, h) else none
    | _ => none)
  | .lstore_n i => (match st with
    | .long x :: r => bif Nat.blt (i.val + 1) ls.length then some (pc + 1, am_set2 ls i.val (.long x), r, h) else none
    | _ => none)
  | .astore i => (match st with
    | .ref x :: r => bif Nat.blt i ls.length then some (pc + 2, am_set1 ls i (.ref x), r, h) else none
    | .null :: r => bif Nat.blt i ls.length then some (pc + 2, am_set1 ls i .null, r, h) else none
    | _ => none)
  | .astore_n i => (match st with
    | .ref x :: r => bif Nat.blt i.val ls.length then some (pc + 1, am_set1 ls i.val (.ref x), r, h) else none
    | .null :: r => bif Nat.blt i.val ls.length then some (pc + 1, am_set1 ls i.val .null, r, h) else none
    | _ => none)
  | .iinc i n => (match ls[i]? with
    | some (.int x) => some (pc + 3, am_set1 ls i (.int (x + Int32.ofInt n)), st, h)
    | _ => none)
  | .iadd => (match st with
    | .int y :: .int x :: r => some (pc + 1, ls, .int (x + y) :: r, h)
    | _ => none)
  | .isub => (match st with
    | .int y :: .int x :: r => some (pc + 1, ls, .int (x - y) :: r, h)
    | _ => none)
  | .imul => (match st with
    | .int y :: .int x :: r => some (pc + 1, ls, .int (x * y) :: r, h)
    | _ => none)
  | .iand => (match st with
    | .int y :: .int x :: r => some (pc + 1, ls, .int (x &&& y) :: r, h)
    | _ => none)
  | .ior => (match st with
    | .int y :: .int x :: r => some (pc + 1, ls, .int (x ||| y) :: r, h)
    | _ => none)
  | .ixor => (match st with
    | .int y :: .int x :: r => some (pc + 1, ls, .int (x ^^^ y) :: r, h)
    | _ => none)
  | .idiv => (match st with
    | .int y :: .int x :: r => if y = 0 then none else some (pc + 1, ls, .int (x / y) :: r, h)
    | _ => none)
  | .irem => (match st with
    | .int y :: .int x :: r => if y = 0 then none else some (pc + 1, ls, .int (x - x / y * y) :: r, h)
    | _ => none)
  | .ineg => (match st with
    | .int x :: r => some (pc + 1, ls, .int (-x) :: r, h)
    | _ => none)
  | .ishl => (match st with
    | .int y :: .int x :: r => some (pc + 1, ls, .int (x <<< (y &&& 31)) :: r, h)
    | _ => none)
  | .ishr => (match st with
    | .int y :: .int x :: r => some (pc + 1, ls, .int (x >>> (y &&& 31)) :: r, h)
    | _ => none)
  | .iushr => (match st with
    | .int y :: .int x :: r => some (pc + 1, ls, .int (x.toUInt32 >>> (y.toUInt32 &&& Int32.toUInt32 31)).toInt32 :: r, h)
    | _ => none)
  | .ladd => (match st with
    | .long y :: .long x :: r => some (pc + 1, ls, .long (x + y) :: r, h)
    | _ => none)
  | .lsub => (match st with
    | .long y :: .long x :: r => some (pc + 1, ls, .long (x - y) :: r, h)
    | _ => none)
  | .lmul => (match st with
    | .long y :: .long x :: r => some (pc + 1, ls, .long (x * y) :: r, h)
    | _ => none)
  | .ldiv => (match st with
    | .long y :: .long x :: r => if y = 0 then none else some (pc + 1, ls, .long (x / y) :: r, h)
    | _ => none)
  | .lrem => (match st with
    | .long y :: .long x :: r => if y = 0 then none else some (pc + 1, ls, .long (x - x / y * y) :: r, h)
    | _ => none)
  | .lor => (match st with
    | .long y :: .long x :: r => some (pc + 1, ls, .long (x ||| y) :: r, h)
    | _ => none)
  | .land => (match st with
    | .long y :: .long x :: r => some (pc + 1, ls, .long (x &&& y) :: r, h)
    | _ => none)
  | .lshl => (match st with
    | .int y :: .long x :: r => some (pc + 1, ls, .long (x <<< (y.toInt64 &&& 63)) :: r, h)
    | _ => none)
  | .lcmp => (match st with
    | .long y :: .long x :: r => some (pc + 1, ls, .int (lg_cmp x y) :: r, h)
    | _ => none)
  | .i2l => (match st with
    | .int x :: r => some (pc + 1, ls, .long x.toInt64 :: r, h)
    | _ => none)
  | .l2i => (match st with
    | .long x :: r => some (pc + 1, ls, .int x.toInt32 :: r, h)
    | _ => none)
  | .i2b => (match st with
    | .int x :: r => some (pc + 1, ls, .int x.toInt8.toInt32 :: r, h)
    | _ => none)
  | .i2c => (match st with
    | .int x :: r => some (pc + 1, ls, .int (x.toUInt32 % 65536).toInt32 :: r, h)
    | _ => none)
  | .dup => (match st with
    | v :: r => bif Nat.beq v.category 1 then some (pc + 1, ls, v :: v :: r, h) else none
    | _ => none)
  | .dup2 => (match st with
    | v :: w :: r => bif Nat.beq v.category 1 && Nat.beq w.category 1 then some (pc + 1, ls, v :: w :: v :: w :: r, h) else none
    | _ => none)
  | .pop => (match st with
    | v :: r => bif Nat.beq v.category 1 then some (pc + 1, ls, r, h) else none
    | _ => none)
  | .goto _ => some (e.2.2.1.toNat, ls, st, h)
  | .ifCond c _ => (match st with
    | .int x :: r => (match c with
      | .eq => if x = 0 then some (e.2.2.1.toNat, ls, r, h) else some (pc + 3, ls, r, h)
      | .ne => if x = 0 then some (pc + 3, ls, r, h) else some (e.2.2.1.toNat, ls, r, h)
      | .lt => if x < 0 then some (e.2.2.1.toNat, ls, r, h) else some (pc + 3, ls, r, h)
      | .ge => if 0 ≤ x then some (e.2.2.1.toNat, ls, r, h) else some (pc + 3, ls, r, h)
      | .gt => if 0 < x then some (e.2.2.1.toNat, ls, r, h) else some (pc + 3, ls, r, h)
      | .le => if x ≤ 0 then some (e.2.2.1.toNat, ls, r, h) else some (pc + 3, ls, r, h))
    | _ => none)
  | .if_icmp c _ => (match st with
    | .int y :: .int x :: r => (match c with
      | .eq => if x = y then some (e.2.2.1.toNat, ls, r, h) else some (pc + 3, ls, r, h)
      | .ne => if x = y then some (pc + 3, ls, r, h) else some (e.2.2.1.toNat, ls, r, h)
      | .lt => if x < y then some (e.2.2.1.toNat, ls, r, h) else some (pc + 3, ls, r, h)
      | .ge => if y ≤ x then some (e.2.2.1.toNat, ls, r, h) else some (pc + 3, ls, r, h)
      | .gt => if y < x then some (e.2.2.1.toNat, ls, r, h) else some (pc + 3, ls, r, h)
      | .le => if x ≤ y then some (e.2.2.1.toNat, ls, r, h) else some (pc + 3, ls, r, h))
    | _ => none)
  | .ifnull _ => (match st with
    | .null :: r => some (e.2.2.1.toNat, ls, r, h)
    | .ref _ :: r => some (pc + 3, ls, r, h)
    | _ => none)
  | .ifnonnull _ => (match st with
    | .null :: r => some (pc + 3, ls, r, h)
    | .ref _ :: r => some (e.2.2.1.toNat, ls, r, h)
    | _ => none)
  | .tableswitch d lo hi offs => (match st with
    | .int x :: r => if x.toInt < lo ∨ hi < x.toInt then some (((pc : Int) + d).toNat, ls, r, h) else
      (match offs[(x.toInt - lo).toNat]? with
      | some o => some (((pc : Int) + o).toNat, ls, r, h)
      | none => none)
    | _ => none)
  | .ldc _ => bif Nat.beq e.2.2.2.2.1 0 then some (pc + 2, ls, Value.int (Int32.ofNat e.2.2.2.1) :: st, h) else none
  | .ldc_w _ => bif Nat.beq e.2.2.2.2.1 0 then some (pc + 3, ls, Value.int (Int32.ofNat e.2.2.2.1) :: st, h) else none
  | .ldc2_w _ => some (pc + 3, ls, .long (Int64.ofNat e.2.2.2.1) :: st, h)
  | .getstatic _ => some (pc + 3, ls, .ref e.2.2.2.1 :: st, h)
  | .getfield _ => (match st with
    | .ref a :: r => bif am_isO h a e.2.2.2.1 then some (pc + 3, ls, h.2.2.2 a e.2.2.2.2.1 :: r, h) else none
    | _ => none)
  | .putfield _ => (match st with
    | v :: .ref a :: r => bif am_isO h a e.2.2.2.1 && am_fok (am_ty e.2.2.2.1 e.2.2.2.2.1) v then some (pc + 3, ls, r, am_put h a e.2.2.2.2.1 v) else none
    | _ => none)
  | .iaload => (match st with
    | .int i :: .ref a :: r => (match am_rd h a i (fun c => Nat.beq c 0) with
      | some v => some (pc + 1, ls, v :: r, h)
      | none => none)
    | _ => none)
  | .baload => (match st with
    | .int i :: .ref a :: r => (match am_rd h a i (fun c => Nat.beq c 1 || Nat.beq c 2) with
      | some v => some (pc + 1, ls, v :: r, h)
      | none => none)
    | _ => none)
  | .laload => (match st with
    | .int i :: .ref a :: r => (match am_rd h a i (fun c => Nat.beq c 3) with
      | some v => some (pc + 1, ls, v :: r, h)
      | none => none)
    | _ => none)
  | .aaload => (match st with
    | .int i :: .ref a :: r => (match am_rd h a i (fun c => Nat.ble 4 c && am_isA c) with
      | some v => some (pc + 1, ls, v :: r, h)
      | none => none)
    | _ => none)
  | .iastore => (match st with
    | .int x :: .int i :: .ref a :: r => (match am_wr h a i 0 (.int x) with
      | some h' => some (pc + 1, ls, r, h')
      | none => none)
    | _ => none)
  | .bastore => (match st with
    | .int x :: .int i :: .ref a :: r => (match (bif Nat.beq (h.2.2.1 a).2.1 1 then am_wr h a i 1 (.int x.toInt8.toInt32) else am_wr h a i 2 (.int (x &&& 1))) with
      | some h' => some (pc + 1, ls, r, h')
      | none => none)
    | _ => none)
  | .lastore => (match st with
    | .long x :: .int i :: .ref a :: r => (match am_wr h a i 3 (.long x) with
      | some h' => some (pc + 1, ls, r, h')
      | none => none)
    | _ => none)
  | .aastore => (match st with
    | .ref v :: .int i :: .ref a :: r => bif am_isO h v (h.2.2.1 v).2.1 && am_isA ((h.2.2.1 v).2.1 + 4) then (match am_wr h a i ((h.2.2.1 v).2.1 + 4) (.ref v) with
      | some h' => some (pc + 1, ls, r, h')
      | none => none) else none
    | _ => none)
  | .arraylength => (match st with
    | .ref a :: r => (match am_len h a with
      | some n => some (pc + 1, ls, .int (Int32.ofNat n) :: r, h)
      | none => none)
    | _ => none)
  | .new _ => some (pc + 3, ls, .ref h.1 :: st, am_mk h (0, e.2.2.2.1, am_N e.2.2.2.1) (am_N e.2.2.2.1) (fun j => defaultValue (am_ty e.2.2.2.1 j)))
  | .newarray _ => (match st with
    | .int n :: r => if n < 0 ∨ 100000 < n.toNatClampNeg then none else some (pc + 2, ls, .ref h.1 :: r, am_mk h (1, e.2.2.2.1, n.toNatClampNeg) n.toNatClampNeg (fun _ => am_dv e.2.2.2.1))
    | _ => none)
  | .anewarray _ => (match st with
    | .int n :: r => if n < 0 ∨ 100000 < n.toNatClampNeg then none else some (pc + 3, ls, .ref h.1 :: r, am_mk h (1, e.2.2.2.1, n.toNatClampNeg) n.toNatClampNeg (fun _ => .null))
    | _ => none)
  | _ => none
abbrev am_F : Type := Nat → Nat → Nat → List Value → List Value → am_H → Option (Option Value × am_H)
def am_wid (as : List Value) : List Value := as.flatMap fun v => bif Nat.beq v.category 2 then [v, am_ph] else [v]
def am_ent (as : List Value) (mx : Nat) : List Value := am_wid as ++ List.replicate (mx - (am_wid as).length) am_ph
def am_isI (v : Value) : Bool := match v with
  | .int _ => true
  | _ => false
/-- System.arraycopy between arrays of ints -/
def am_cp (h : am_H) (a : Nat) (sp : Int32) (b : Nat) (dp n : Int32) : Option am_H :=
  bif Nat.blt a h.1 && (Nat.beq (h.2.2.1 a).1 1 || Nat.beq (h.2.2.1 a).1 2) && Nat.beq (h.2.2.1 a).2.1 0 && Nat.blt b h.1 && Nat.beq (h.2.2.1 b).1 1 && Nat.beq (h.2.2.1 b).2.1 0 then
    (if sp < 0 ∨ dp < 0 ∨ n < 0 ∨ (h.2.2.1 a).2.2 < sp.toNatClampNeg + n.toNatClampNeg ∨ (h.2.2.1 b).2.2 < dp.toNatClampNeg + n.toNatClampNeg then none
     else bif (List.range n.toNatClampNeg).all (fun i => am_isI (h.2.2.2 a (sp.toNatClampNeg + i))) then some (h.1, h.2.1, h.2.2.1, am_row h.2.2.2 b (fun j => if dp.toNatClampNeg ≤ j ∧ j < dp.toNatClampNeg + n.toNatClampNeg then h.2.2.2 a (sp.toNatClampNeg + (j - dp.toNatClampNeg)) else h.2.2.2 b j)) else none)
  else none
/-- what Stop's constructor leaves -/
def am_stop (h : am_H) (a : Nat) : am_H := (h.1, h.2.1, h.2.2.1, am_row h.2.2.2 a (fun j => bif Nat.blt j 4 then .null else h.2.2.2 a j))
def am_rcv (z : Nat) (as : List Value) (h : am_H) : Bool := match (am_in z).2.2.2 with
  | 1 => true
  | 2 => (match as with
    | .ref _ :: _ => true
    | _ => false)
  | _ => (match as with
    | .ref k :: _ => am_isO h k (am_in z).1
    | _ => false)
/-- which handler a throw at a place finds -/
def am_ctc (hh : List (Nat × Nat × Nat × Nat)) (pc : Nat) : Option Nat := match hh with
  | [] => none
  | q :: r => bif Nat.ble q.1 pc && Nat.blt pc q.2.1 then some q.2.2.1 else am_ctc r pc
/-- a cell (a Stop) is thrown at a place: an answer .retAddr (a + 1) stands for the throw of a -/
def am_thr (rec : am_F) (d y pc : Nat) (ls : List Value) (a : Nat) (h : am_H) : Option (Option Value × am_H) :=
  bif am_isO h a 12 && Nat.blt 0 y then (match am_ctc (am_hh y) pc with
    | some hp => rec d y hp ls [.ref a] h
    | none => some (some (.retAddr (a + 1)), h)) else none
def am_isT (v : Option Value) : Option Nat := match v with
  | some (.retAddr (a + 1)) => some a
  | _ => none
def am_cal0 (rec : am_F) (d y pc : Nat) (ls st : List Value) (h : am_H) (e : am_E) : Option (Option Value × am_H) :=
  match d with
  | 0 => none
  | d' + 1 =>
    bif Nat.beq e.2.2.2.1 1000 then (match st with
      | .ref _ :: r => bif Nat.ble (am_cs r) 8 then rec d y (pc + 3) ls r h else none
      | _ => none)
    else bif Nat.beq e.2.2.2.1 1001 then (match st with
      | .int n :: .int dp :: .ref b :: .int sp :: .ref a :: r => bif Nat.ble (am_cs r) 8 then (match am_cp h a sp b dp n with
        | some h' => rec d y (pc + 3) ls r h'
        | none => none) else none
      | _ => none)
    else bif Nat.beq e.2.2.2.1 1002 then (match st with
      | .ref a :: r => bif Nat.ble (am_cs r) 8 && am_isO h a 12 && Nat.ble 3 d' then rec d y (pc + 3) ls r (am_stop h a) else none
      | _ => none)
    else bif Nat.beq e.2.2.2.1 10 then (match st with
      | .int b :: .int a :: r => bif Nat.ble (am_cs r) 8 && Nat.beq e.2.2.2.2.1 0 then rec d y (pc + 3) ls (.int (if a < b then b else a) :: r) h else none
      | _ => none)
    else bif Nat.beq e.2.2.2.1 57 then (match st with
      | .int b :: .int a :: r => bif Nat.ble (am_cs r) 8 && Nat.beq e.2.2.2.2.1 0 then rec d y (pc + 3) ls (.int (if b < a then b else a) :: r) h else none
      | _ => none)
    else bif Nat.blt 0 e.2.2.2.1 && Nat.ble (am_in e.2.2.2.1).2.1 st.length && Nat.ble (am_cs (st.drop (am_in e.2.2.2.1).2.1)) 8 && am_rcv e.2.2.2.1 (st.take (am_in e.2.2.2.1).2.1).reverse h && Nat.ble (am_wid (st.take (am_in e.2.2.2.1).2.1).reverse).length (am_in e.2.2.2.1).2.2.1 then
      (match rec d' e.2.2.2.1 0 (am_ent (st.take (am_in e.2.2.2.1).2.1).reverse (am_in e.2.2.2.1).2.2.1) [] h with
      | some (v, h') => (match am_isT v with
        | some a => bif Nat.beq (am_in e.2.2.2.1).2.2.2 0 then am_thr rec d y pc ls a h' else none
        | none => rec d y (pc + 3) ls (v.toList ++ st.drop (am_in e.2.2.2.1).2.1) h')
      | none => none)
    else none
/-- a text's length and its characters -/
def am_cas (rec : am_F) (d y pc : Nat) (ls st : List Value) (h : am_H) (e : am_E) : Option (Option Value × am_H) :=
  match d with
  | 0 => none
  | d' + 1 =>
    bif Nat.beq e.2.2.2.1 1003 then (match st with
      | .ref k :: r => bif Nat.ble 7 k && Nat.blt k 23 && Nat.ble (am_cs r) 8 && Nat.ble 2 d' && am_sM e.1 (am_in y).1 1003 then rec d y (pc + 3) ls (.int (Int32.ofNat (am_slen (k - 7))) :: r) h else none
      | _ => none)
    else (match st with
      | .int j :: .ref k :: r => bif Nat.ble 7 k && Nat.blt k 23 && Nat.ble (am_cs r) 8 && Nat.ble 4 d' && am_sM e.1 (am_in y).1 1004 && decide (0 ≤ j) && Nat.blt j.toNatClampNeg (am_slen (k - 7)) then rec d y (pc + 3) ls (.int (Int32.ofNat (am_sch (k - 7) j.toNatClampNeg)) :: r) h else none
      | _ => none)
def am_cal (rec : am_F) (d y pc : Nat) (ls st : List Value) (h : am_H) (e : am_E) : Option (Option Value × am_H) :=
  bif Nat.beq e.2.2.2.1 1003 || Nat.beq e.2.2.2.1 1004 then am_cas rec d y pc ls st h e else am_cal0 rec d y pc ls st h e
def am_rok (rt : Option FieldType) (v : Int32) : Bool := match rt with
  | some .int => true
  | some .boolean => v == 0 || v == 1
  | _ => false
/-- a text -/
def am_lds (rec : am_F) (d y pc : Nat) (ls st : List Value) (h : am_H) (e : am_E) : Option (Option Value × am_H) := match e.1 with
  | .ldc idx => (match am_sR (am_in y).1 idx with
    | some i => rec d y (pc + 2) ls (.ref (7 + i) :: st) h
    | none => none)
  | .ldc_w idx => (match am_sR (am_in y).1 idx with
    | some i => rec d y (pc + 3) ls (.ref (7 + i) :: st) h
    | none => none)
  | _ => none
def am_one (rec : am_F) (d y pc : Nat) (ls st : List Value) (h : am_H) : Option (Option Value × am_H) := match (bif Nat.blt y am_NM && Nat.blt pc (am_bd y) then am_code y pc else none) with
  | none => none
  | some e => (match e.1 with
    | .ireturn => (match st with
      | [.int v] => bif am_rok (am_rt y) v then some (some (.int v), h) else none
      | _ => none)
    | .lreturn => (match st with
      | [.long v] => some (some (.long v), h)
      | _ => none)
    | .areturn => (match st with
      | [.null] => some (some .null, h)
      | [.ref a] => some (some (.ref a), h)
      | _ => none)
    | .return_ => (match st with
      | [] => some (none, h)
      | _ => none)
    | .athrow => (match st with
      | .ref a :: _ => am_thr rec d y pc ls a h
      | _ => none)
    | .invokestatic _ => am_cal rec d y pc ls st h e
    | .invokevirtual _ => am_cal rec d y pc ls st h e
    | .invokespecial _ => am_cal rec d y pc ls st h e
    | _ => (match am_st e pc ls st h with
      | some (pc', ls', st', h') => rec d y pc' ls' st' h'
      | none => am_lds rec d y pc ls st h e))
noncomputable def am_run (n : Nat) : am_F := Nat.rec (fun _ _ _ _ _ _ => none) (fun _ rec => am_one rec) n
theorem am_run_s (n d y pc : Nat) (ls st : List Value) (h : am_H) : am_run (n + 1) d y pc ls st h = am_one (am_run n) d y pc ls st h := rfl
