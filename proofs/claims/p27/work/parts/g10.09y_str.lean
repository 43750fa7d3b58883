section
/-! STRINGS: the texts, by numbers; text i is the cell 7 + i, its bytes the cell 23 + i -/
def am_stx : List String := ["all", "apart", "credit", "edition", "fee", "free", "front", "lands", "line", "most", "page", "sheet", "sheets", "sum", "title", "until"]
def am_sby : List (List Nat) := [[97, 108, 108], [97, 112, 97, 114, 116], [99, 114, 101, 100, 105, 116], [101, 100, 105, 116, 105, 111, 110], [102, 101, 101], [102, 114, 101, 101], [102, 114, 111, 110, 116], [108, 97, 110, 100, 115], [108, 105, 110, 101], [109, 111, 115, 116], [112, 97, 103, 101], [115, 104, 101, 101, 116], [115, 104, 101, 101, 116, 115], [115, 117, 109], [116, 105, 116, 108, 101], [117, 110, 116, 105, 108]]
def am_sRefW : List ((String × Nat × Nat) × Nat) := [(("PoetsBook$Leave", 72, 7), 906), (("PoetsBook$Leave", 77, 15), 908), (("PoetsBook$Leave", 78, 4), 909), (("PoetsBook$Leave", 80, 1), 910), (("PoetsBook$Leave", 81, 3), 911), (("PoetsBook$Leave", 82, 2), 912), (("PoetsBook$Leave", 115, 8), 936), (("PoetsBook$Leave", 117, 10), 937), (("PoetsBook$Leave", 119, 0), 938), (("PoetsBook$Rules", 75, 10), 539), (("PoetsBook$Rules", 81, 11), 592), (("PoetsBook$Rules", 83, 14), 593), (("PoetsBook$Rules", 85, 6), 594), (("PoetsBook$Rules", 87, 12), 595), (("PoetsBook$Rules", 89, 13), 596), (("PoetsBook$Rules", 91, 9), 597), (("PoetsBook$Rules", 93, 5), 598), (("PoetsBookModel", 245, 10), 1703), (("PoetsBookModel", 251, 11), 1704), (("PoetsBookModel", 253, 14), 1705), (("PoetsBookModel", 255, 6), 1706), (("PoetsBookModel", 257, 12), 1707), (("PoetsBookModel", 259, 13), 1708), (("PoetsBookModel", 261, 9), 1709), (("PoetsBookModel", 263, 5), 1676), (("PoetsBookModel", 373, 7), 1839), (("PoetsBookModel", 375, 15), 1840), (("PoetsBookModel", 376, 4), 1841), (("PoetsBookModel", 377, 1), 1842), (("PoetsBookModel", 378, 3), 1843), (("PoetsBookModel", 380, 2), 1844), (("PoetsBookModel", 384, 8), 1853), (("PoetsBookModel", 386, 0), 1854)]
def am_sRefs : List (String × Nat × Nat) := am_sRefW.map (·.1)
def am_sRep : List (String × Nat) := [("PoetsBook$Leave", 119), ("PoetsBook$Leave", 80), ("PoetsBook$Leave", 82), ("PoetsBook$Leave", 81), ("PoetsBook$Leave", 78), ("PoetsBook$Rules", 93), ("PoetsBook$Rules", 85), ("PoetsBook$Leave", 72), ("PoetsBook$Leave", 115), ("PoetsBook$Rules", 91), ("PoetsBook$Rules", 75), ("PoetsBook$Rules", 81), ("PoetsBook$Rules", 87), ("PoetsBook$Rules", 89), ("PoetsBook$Rules", 83), ("PoetsBook$Leave", 77)]
def am_sTab : List (Nat × Nat × Nat) := [(4, 72, 7), (4, 77, 15), (4, 78, 4), (4, 80, 1), (4, 81, 3), (4, 82, 2), (4, 115, 8), (4, 117, 10), (4, 119, 0), (8, 75, 10), (8, 81, 11), (8, 83, 14), (8, 85, 6), (8, 87, 12), (8, 89, 13), (8, 91, 9), (8, 93, 5), (13, 245, 10), (13, 251, 11), (13, 253, 14), (13, 255, 6), (13, 257, 12), (13, 259, 13), (13, 261, 9), (13, 263, 5), (13, 373, 7), (13, 375, 15), (13, 376, 4), (13, 377, 1), (13, 378, 3), (13, 380, 2), (13, 384, 8), (13, 386, 0)]
def am_sF (ci idx : Nat) : List (Nat × Nat × Nat) → Option Nat
  | [] => none
  | q :: r => bif Nat.beq q.1 ci && Nat.beq q.2.1 idx then some q.2.2 else am_sF ci idx r
def am_sR (ci idx : Nat) : Option Nat := am_sF ci idx am_sTab
def am_slen (i : Nat) : Nat := (am_sby.getD i []).length
def am_sch (i j : Nat) : Nat := (am_sby.getD i []).getD j 0
def am_sM (i : Instr) (ci z : Nat) : Bool := match i with
  | .invokevirtual idx => (Nat.beq ci 9 && Nat.beq idx 54 && Nat.beq z 1003) || (Nat.beq ci 13 && Nat.beq idx 50 && Nat.beq z 1003) || (Nat.beq ci 9 && Nat.beq idx 58 && Nat.beq z 1004) || (Nat.beq ci 13 && Nat.beq idx 55 && Nat.beq z 1004)
  | _ => false
end
section
/-! THE PLAIN MACHINE: cells by numbers, values in cells, locals and a stack as lists; a step and a run as functions -/
abbrev am_Sh : Type := Nat × Nat × Nat
abbrev am_H : Type := Nat × Nat × (Nat → am_Sh) × (Nat → Nat → Value)
abbrev am_R : Type := Option (Nat × List Value × List Value × am_H)
def am_n0 : Nat := 40
def am_ph : Value := Value.retAddr 0
def am_kill (ls : List Value) (i : Nat) : List Value := match i with
  | 0 => ls
  | j + 1 => (match ls[j]? with
    | some v => bif Nat.beq v.category 2 then ls.set j am_ph else ls
    | none => ls)
def am_set1 (ls : List Value) (i : Nat) (v : Value) : List Value := (am_kill ls i).set i v
def am_set2 (ls : List Value) (i : Nat) (v : Value) : List Value := ((am_kill ls i).set i v).set (i + 1) am_ph
def am_up (V : Nat → Nat → Value) (k j : Nat) (v : Value) : Nat → Nat → Value := fun a b => if a = k then (if b = j then v else V a b) else V a b
def am_row (V : Nat → Nat → Value) (k : Nat) (d : Nat → Value) : Nat → Nat → Value := fun a b => if a = k then d b else V a b
def am_put (h : am_H) (k j : Nat) (v : Value) : am_H := (h.1, h.2.1, h.2.2.1, am_up h.2.2.2 k j v)
def am_mk (h : am_H) (sh : am_Sh) (N : Nat) (d : Nat → Value) : am_H := (h.1 + 1, h.2.1 + N, (fun k => if k = h.1 then sh else h.2.2.1 k), am_row h.2.2.2 h.1 d)
def am_fok (ty : FieldType) (v : Value) : Bool := match ty, v with
  | .int, .int _ => true
  | .boolean, .int x => x == 0 || x == 1
  | .long, .long _ => true
  | .object _, .null => true
  | .object _, .ref _ => true
  | .array _, .null => true
  | .array _, .ref _ => true
  | _, _ => false
/-- reading a place of an array whose elements' code is tc -/
def am_rd (h : am_H) (a : Nat) (i : Int32) (ok : Nat → Bool) : Option Value :=
  bif Nat.blt a h.1 && (Nat.beq (h.2.2.1 a).1 1 || Nat.beq (h.2.2.1 a).1 2) && ok (h.2.2.1 a).2.1 then
    (if i < 0 ∨ (h.2.2.1 a).2.2 ≤ i.toNatClampNeg then none else some (h.2.2.2 a i.toNatClampNeg))
  else none
def am_wr (h : am_H) (a : Nat) (i : Int32) (tc : Nat) (v : Value) : Option am_H :=
  bif Nat.blt a h.1 && Nat.beq (h.2.2.1 a).1 1 && Nat.beq (h.2.2.1 a).2.1 tc then
    (if i < 0 ∨ (h.2.2.1 a).2.2 ≤ i.toNatClampNeg then none else some (am_put h a i.toNatClampNeg v))
  else none
def am_isO (h : am_H) (a ci : Nat) : Bool := Nat.blt a h.1 && Nat.beq (h.2.2.1 a).1 0 && Nat.beq (h.2.2.1 a).2.1 ci
def am_len (h : am_H) (a : Nat) : Option Nat := bif Nat.blt a h.1 && (Nat.beq (h.2.2.1 a).1 1 || Nat.beq (h.2.2.1 a).1 2) then some (h.2.2.1 a).2.2 else none
def am_dv (tc : Nat) : Value := match tc with
  | 0 => .int 0
  | 1 => .int 0
  | 2 => .int 0
  | 3 => .long 0
  | _ => .null
def am_cs (st : List Value) : Nat := (st.map fun v => v.category).sum
def am_st (e : am_E) (pc : Nat) (ls st : List Value) (h : am_H) : am_R := match e.1 with
  | .aconst_null => some (pc + 1, ls, .null :: st, h)
  | .iconst n => some (pc + 1, ls, .int (Int32.ofInt n) :: st, h)
  | .bipush n => some (pc + 2, ls, .int (Int8.ofInt n).toInt32 :: st, h)
  | .sipush n => some (pc + 3, ls, .int (Int16.ofInt n).toInt32 :: st, h)
  | .lconst n => some (pc + 1, ls, .long (Int64.ofNat n) :: st, h)
  | .iload i => (match ls[i]? with
    | some (.int x) => some (pc + 2, ls, .int x :: st, h)
    | _ => none)
  | .iload_n i => (match ls[i.val]? with
    | some (.int x) => some (pc + 1, ls, .int x :: st, h)
    | _ => none)
  | .lload i => (match ls[i]? with
    | some (.long x) => some (pc + 2, ls, .long x :: st, h)
    | _ => none)
  | .lload_n i => (match ls[i.val]? with
    | some (.long x) => some (pc + 1, ls, .long x :: st, h)
    | _ => none)
  | .aload i => (match ls[i]? with
    | some (.ref x) => some (pc + 2, ls, .ref x :: st, h)
    | some .null => some (pc + 2, ls, .null :: st, h)
    | _ => none)
  | .aload_n i => (match ls[i.val]? with
    | some (.ref x) => some (pc + 1, ls, .ref x :: st, h)
    | some .null => some (pc + 1, ls, .null :: st, h)
    | _ => none)
  | .istore i => (match st with
    | .int x :: r => bif Nat.blt i ls.length then some (pc + 2, am_set1 ls i (.int x), r, h) else none
    | _ => none)
  | .istore_n i => (match st with
    | .int x :: r => bif Nat.blt i.val ls.length then some (pc + 1, am_set1 ls i.val (.int x), r, h) else none
    | _ => none)
  | .lstore i => (match st with
    | .long x :: r => bif Nat.blt (i + 1) ls.length then some (pc + 2, am_set2 ls i (.long x), r, h) else none
    | _ => none)
  | .lstore_n i => (match st with
    | .long x :: r => bif Nat.blt (i.val + 1) ls.length then some (pc + 1, am_set2 ls i.val (.long x), r, h) else none
    | _ => none)
  | .astore i => (match st with
    | .ref x :: r => bif Nat.blt i ls.length then some (pc + 2, am_set1 ls i (.ref x), r, h) else none
    | .null :: r => bif Nat.blt i ls.length then some (pc + 2, am_set1 ls i .null, r, h) else none
    | _ => none)
  | .astore_n i => (match st with
    | .ref x :: r => bif Nat.blt i.val ls.length then some (pc + 1, am_set1 ls i.val (.ref x), r, h) else none
    | .null :: r => bif Nat.blt i.val ls.length then some (pc + 1, am_set1 ls i.val .null, r, h) else none
    | _ => none)
  | .iinc i n => (match ls[i]? with
    | some (.int x) => some (pc + 3, am_set1 ls i (.int (x + Int32.ofInt n)), st, h)
    | _ => none)
  | .iadd => (match st with
    | .int y :: .int x :: r => some (pc + 1, ls, .int (x + y) :: r, h)
    | _ => none)
  | .isub => (match st with
    | .int y :: .int x :: r => some (pc + 1, ls, .int (x - y) :: r, h)
    | _ => none)
  | .imul => (match st with
    | .int y :: .int x :: r => some (pc + 1, ls, .int (x * y) :: r, h)
    | _ => none)
  | .iand => (match st with
    | .int y :: .int x :: r => some (pc + 1, ls, .int (x &&& y) :: r, h)
    | _ => none)
  | .ior => (match st with
    | .int y :: .int x :: r => some (pc + 1, ls, .int (x ||| y) :: r, h)
    | _ => none)
  | .ixor => (match st with
    | .int y :: .int x :: r => some (pc + 1, ls, .int (x ^^^ y) :: r, h)
    | _ => none)
  | .idiv => (match st with
    | .int y :: .int x :: r => if y = 0 then none else some (pc + 1, ls, .int (x / y) :: r, h)
    | _ => none)
  | .irem => (match st with
    | .int y :: .int x :: r => if y = 0 then none else some (pc + 1, ls, .int (x - x / y * y) :: r, h)
    | _ => none)
  | .ineg => (match st with
    | .int x :: r => some (pc + 1, ls, .int (-x) :: r, h)
    | _ => none)
  | .ishl => (match st with
    | .int y :: .int x :: r => some (pc + 1, ls, .int (x <<< (y &&& 31)) :: r, h)
    | _ => none)
  | .ishr => (match st with
    | .int y :: .int x :: r => some (pc + 1, ls, .int (x >>> (y &&& 31)) :: r, h)
    | _ => none)
  | .iushr => (match st with
    | .int y :: .int x :: r => some (pc + 1, ls, .int (x.toUInt32 >>> (y.toUInt32 &&& Int32.toUInt32 31)).toInt32 :: r, h)
    | _ => none)
  | .ladd => (match st with
    | .long y :: .long x :: r => some (pc + 1, ls, .long (x + y) :: r, h)
    | _ => none)
  | .lsub => (match st with
    | .long y :: .long x :: r => some (pc + 1, ls, .long (x - y) :: r, h)
    | _ => none)
  | .lmul => (match st with
    | .long y :: .long x :: r => some (pc + 1, ls, .long (x * y) :: r, h)
    | _ => none)
  | .ldiv => (match st with
    | .long y :: .long x :: r => if y = 0 then none else some (pc + 1, ls, .long (x / y) :: r, h)
    | _ => none)
  | .lrem => (match st with
    | .long y :: .long x :: r => if y = 0 then none else some (pc + 1, ls, .long (x - x / y * y) :: r, h)
    | _ => none)
  | .lor => (match st with
    | .long y :: .long x :: r => some (pc + 1, ls, .long (x ||| y) :: r, h)
    | _ => none)
  | .land => (match st with
    | .long y :: .long x :: r => some (pc + 1, ls, .long (x &&& y) :: r, h)
    | _ => none)
  | .lshl => (match st with
    | .int y :: .long x :: r => some (pc + 1, ls, .long (x <<< (y.toInt64 &&& 63)) :: r, h)
    | _ => none)
  | .lcmp => (match st with
    | .long y :: .long x :: r => some (pc + 1, ls, .int (lg_cmp x y) :: r, h)
    | _ => none)
  | .i2l => (match st with
    | .int x :: r => some (pc + 1, ls, .long x.toInt64 :: r, h)
    | _ => none)
  | .l2i => (match st with
    | .long x :: r => some (pc + 1, ls, .int x.toInt32 :: r, h)
    | _ => none)
  | .i2b => (match st with
    | .int x :: r => some (pc + 1, ls, .int x.toInt8.toInt32 :: r, h)
    | _ => none)
  | .i2c => (match st with
    | .int x :: r => some (pc + 1, ls, .int (x.toUInt32 % 65536).toInt32 :: r, h)
    | _ => none)
  | .dup => (match st with
    | v :: r => bif Nat.beq v.category 1 then some (pc + 1, ls, v :: v :: r, h) else none
    | _ => none)
  | .dup2 => (match st with
    | v :: w :: r => bif Nat.beq v.category 1 && Nat.beq w.category 1 then some (pc + 1, ls, v :: w :: v :: w :: r, h) else none
    | _ => none)
  | .pop => (match st with
    | v :: r => bif Nat.beq v.category 1 then some (pc + 1, ls, r, h) else none
    | _ => none)
  | .goto _ => some (e.2.2.1.toNat, ls, st, h)
  | .ifCond c _ => (match st with
    | .int x :: r => (match c with
      | .eq => if x = 0 then some (e.2.2.1.toNat, ls, r, h) else some (pc + 3, ls, r, h)
      | .ne => if x = 0 then some (pc + 3, ls, r, h) else some (e.2.2.1.toNat, ls, r, h)
      | .lt => if x < 0 then some (e.2.2.1.toNat, ls, r, h) else some (pc + 3, ls, r, h)
      | .ge => if 0 ≤ x then some (e.2.2.1.toNat, ls, r, h) else some (pc + 3, ls, r, h)
      | .gt => if 0 < x then some (e.2.2.1.toNat, ls, r, h) else some (pc + 3, ls, r, h)
      | .le => if x ≤ 0 then some (e.2.2.1.toNat, ls, r, h) else some (pc + 3, ls, r, h))
    | _ => none)
  | .if_icmp c _ => (match st with
    | .int y :: .int x :: r => (match c with
      | .eq => if x = y then some (e.2.2.1.toNat, ls, r, h) else some (pc + 3, ls, r, h)
      | .ne => if x = y then some (pc + 3, ls, r, h) else some (e.2.2.1.toNat, ls, r, h)
      | .lt => if x < y then some (e.2.2.1.toNat, ls, r, h) else some (pc + 3, ls, r, h)
      | .ge => if y ≤ x then some (e.2.2.1.toNat, ls, r, h) else some (pc + 3, ls, r, h)
      | .gt => if y < x then some (e.2.2.1.toNat, ls, r, h) else some (pc + 3, ls, r, h)
      | .le => if x ≤ y then some (e.2.2.1.toNat, ls, r, h) else some (pc + 3, ls, r, h))
    | _ => none)
  | .ifnull _ => (match st with
    | .null :: r => some (e.2.2.1.toNat, ls, r, h)
    | .ref _ :: r => some (pc + 3, ls, r, h)
    | _ => none)
  | .ifnonnull _ => (match st with
    | .null :: r => some (pc + 3, ls, r, h)
    | .ref _ :: r => some (e.2.2.1.toNat, ls, r, h)
    | _ => none)
  | .tableswitch d lo hi offs => (match st with
    | .int x :: r => if x.toInt < lo ∨ hi < x.toInt then some (((pc : Int) + d).toNat, ls, r, h) else
      (match offs[(x.toInt - lo).toNat]? with
      | some o => some (((pc : Int) + o).toNat, ls, r, h)
      | none => none)
    | _ => none)
  | .ldc _ => bif Nat.beq e.2.2.2.2.1 0 then some (pc + 2, ls, Value.int (Int32.ofNat e.2.2.2.1) :: st, h) else none
  | .ldc_w _ => bif Nat.beq e.2.2.2.2.1 0 then some (pc + 3, ls, Value.int (Int32.ofNat e.2.2.2.1) :: st, h) else none
  | .ldc2_w _ => some (pc + 3, ls, .long (Int64.ofNat e.2.2.2.1) :: st, h)
  | .getstatic _ => some (pc + 3, ls, .ref e.2.2.2.1 :: st, h)
  | .getfield _ => (match st with
    | .ref a :: r => bif am_isO h a e.2.2.2.1 then some (pc + 3, ls, h.2.2.2 a e.2.2.2.2.1 :: r, h) else none
    | _ => none)
  | .putfield _ => (match st with
    | v :: .ref a :: r => bif am_isO h a e.2.2.2.1 && am_fok (am_ty e.2.2.2.1 e.2.2.2.2.1) v then some (pc + 3, ls, r, am_put h a e.2.2.2.2.1 v) else none
    | _ => none)
  | .iaload => (match st with
    | .int i :: .ref a :: r => (match am_rd h a i (fun c => Nat.beq c 0) with
      | some v => some (pc + 1, ls, v :: r, h)
      | none => none)
    | _ => none)
  | .baload => (match st with
    | .int i :: .ref a :: r => (match am_rd h a i (fun c => Nat.beq c 1 || Nat.beq c 2) with
      | some v => some (pc + 1, ls, v :: r, h)
      | none => none)
    | _ => none)
  | .laload => (match st with
    | .int i :: .ref a :: r => (match am_rd h a i (fun c => Nat.beq c 3) with
      | some v => some (pc + 1, ls, v :: r, h)
      | none => none)
    | _ => none)
  | .aaload => (match st with
    | .int i :: .ref a :: r => (match am_rd h a i (fun c => Nat.ble 4 c && am_isA c) with
      | some v => some (pc + 1, ls, v :: r, h)
      | none => none)
    | _ => none)
  | .iastore => (match st with
    | .int x :: .int i :: .ref a :: r => (match am_wr h a i 0 (.int x) with
      | some h' => some (pc + 1, ls, r, h')
      | none => none)
    | _ => none)
  | .bastore => (match st with
    | .int x :: .int i :: .ref a :: r => (match (bif Nat.beq (h.2.2.1 a).2.1 1 then am_wr h a i 1 (.int x.toInt8.toInt32) else am_wr h a i 2 (.int (x &&& 1))) with
      | some h' => some (pc + 1, ls, r, h')
      | none => none)
    | _ => none)
  | .lastore => (match st with
    | .long x :: .int i :: .ref a :: r => (match am_wr h a i 3 (.long x) with
      | some h' => some (pc + 1, ls, r, h')
      | none => none)
    | _ => none)
  | .aastore => (match st with
    | .ref v :: .int i :: .ref a :: r => bif am_isO h v (h.2.2.1 v).2.1 && am_isA ((h.2.2.1 v).2.1 + 4) then (match am_wr h a i ((h.2.2.1 v).2.1 + 4) (.ref v) with
      | some h' => some (pc + 1, ls, r, h')
      | none => none) else none
    | _ => none)
  | .arraylength => (match st with
    | .ref a :: r => (match am_len h a with
      | some n => some (pc + 1, ls, .int (Int32.ofNat n) :: r, h)
      | none => none)
    | _ => none)
  | .new _ => some (pc + 3, ls, .ref h.1 :: st, am_mk h (0, e.2.2.2.1, am_N e.2.2.2.1) (am_N e.2.2.2.1) (fun j => defaultValue (am_ty e.2.2.2.1 j)))
  | .newarray _ => (match st with
    | .int n :: r => if n < 0 ∨ 100000 < n.toNatClampNeg then none else some (pc + 2, ls, .ref h.1 :: r, am_mk h (1, e.2.2.2.1, n.toNatClampNeg) n.toNatClampNeg (fun _ => am_dv e.2.2.2.1))
    | _ => none)
  | .anewarray _ => (match st with
    | .int n :: r => if n < 0 ∨ 100000 < n.toNatClampNeg then none else some (pc + 3, ls, .ref h.1 :: r, am_mk h (1, e.2.2.2.1, n.toNatClampNeg) n.toNatClampNeg (fun _ => .null))
    | _ => none)
  | _ => none
abbrev am_F : Type := Nat → Nat → Nat → List Value → List Value → am_H → Option (Option Value × am_H)
def am_wid (as : List Value) : List Value := as.flatMap fun v => bif Nat.beq v.category 2 then [v, am_ph] else [v]
def am_ent (as : List Value) (mx : Nat) : List Value := am_wid as ++ List.replicate (mx - (am_wid as).length) am_ph
def am_isI (v : Value) : Bool := match v with
  | .int _ => true
  | _ => false
/-- System.arraycopy between arrays of ints -/
def am_cp (h : am_H) (a : Nat) (sp : Int32) (b : Nat) (dp n : Int32) : Option am_H :=
  bif Nat.blt a h.1 && (Nat.beq (h.2.2.1 a).1 1 || Nat.beq (h.2.2.1 a).1 2) && Nat.beq (h.2.2.1 a).2.1 0 && Nat.blt b h.1 && Nat.beq (h.2.2.1 b).1 1 && Nat.beq (h.2.2.1 b).2.1 0 then
    (if sp < 0 ∨ dp < 0 ∨ n < 0 ∨ (h.2.2.1 a).2.2 < sp.toNatClampNeg + n.toNatClampNeg ∨ (h.2.2.1 b).2.2 < dp.toNatClampNeg + n.toNatClampNeg then none
     else bif (List.range n.toNatClampNeg).all (fun i => am_isI (h.2.2.2 a (sp.toNatClampNeg + i))) then some (h.1, h.2.1, h.2.2.1, am_row h.2.2.2 b (fun j => if dp.toNatClampNeg ≤ j ∧ j < dp.toNatClampNeg + n.toNatClampNeg then h.2.2.2 a (sp.toNatClampNeg + (j - dp.toNatClampNeg)) else h.2.2.2 b j)) else none)
  else none
/-- what Stop's constructor leaves -/
def am_stop (h : am_H) (a : Nat) : am_H := (h.1, h.2.1, h.2.2.1, am_row h.2.2.2 a (fun j => bif Nat.blt j 4 then .null else h.2.2.2 a j))
def am_rcv (z : Nat) (as : List Value) (h : am_H) : Bool := match (am_in z).2.2.2 with
  | 1 => true
  | 2 => (match as with
    | .ref _ :: _ => true
    | _ => false)
  | _ => (match as with
    | .ref k :: _ => am_isO h k (am_in z).1
    | _ => false)
/-- which handler a throw at a place finds -/
def am_ctc (hh : List (Nat × Nat × Nat × Nat)) (pc : Nat) : Option Nat := match hh with
  | [] => none
  | q :: r => bif Nat.ble q.1 pc && Nat.blt pc q.2.1 then some q.2.2.1 else am_ctc r pc
/-- a cell (a Stop) is thrown at a place: an answer .retAddr (a + 1) stands for the throw of a -/
def am_thr (rec : am_F) (d y pc : Nat) (ls : List Value) (a : Nat) (h : am_H) : Option (Option Value × am_H) :=
  bif am_isO h a 12 && Nat.blt 0 y then (match am_ctc (am_hh y) pc with
    | some hp => rec d y hp ls [.ref a] h
    | none => some (some (.retAddr (a + 1)), h)) else none
def am_isT (v : Option Value) : Option Nat := match v with
  | some (.retAddr (a + 1)) => some a
  | _ => none
def am_cal0 (rec : am_F) (d y pc : Nat) (ls st : List Value) (h : am_H) (e : am_E) : Option (Option Value × am_H) :=
  match d with
  | 0 => none
  | d' + 1 =>
    bif Nat.beq e.2.2.2.1 1000 then (match st with
      | .ref _ :: r => bif Nat.ble (am_cs r) 8 then rec d y (pc + 3) ls r h else none
      | _ => none)
    else bif Nat.beq e.2.2.2.1 1001 then (match st with
      | .int n :: .int dp :: .ref b :: .int sp :: .ref a :: r => bif Nat.ble (am_cs r) 8 then (match am_cp h a sp b dp n with
        | some h' => rec d y (pc + 3) ls r h'
        | none => none) else none
      | _ => none)
    else bif Nat.beq e.2.2.2.1 1002 then (match st with
      | .ref a :: r => bif Nat.ble (am_cs r) 8 && am_isO h a 12 && Nat.ble 3 d' then rec d y (pc + 3) ls r (am_stop h a) else none
      | _ => none)
    else bif Nat.beq e.2.2.2.1 10 then (match st with
      | .int b :: .int a :: r => bif Nat.ble (am_cs r) 8 && Nat.beq e.2.2.2.2.1 0 then rec d y (pc + 3) ls (.int (if a < b then b else a) :: r) h else none
      | _ => none)
    else bif Nat.beq e.2.2.2.1 57 then (match st with
      | .int b :: .int a :: r => bif Nat.ble (am_cs r) 8 && Nat.beq e.2.2.2.2.1 0 then rec d y (pc + 3) ls (.int (if b < a then b else a) :: r) h else none
      | _ => none)
    else bif Nat.blt 0 e.2.2.2.1 && Nat.ble (am_in e.2.2.2.1).2.1 st.length && Nat.ble (am_cs (st.drop (am_in e.2.2.2.1).2.1)) 8 && am_rcv e.2.2.2.1 (st.take (am_in e.2.2.2.1).2.1).reverse h && Nat.ble (am_wid (st.take (am_in e.2.2.2.1).2.1).reverse).length (am_in e.2.2.2.1).2.2.1 then
      (match rec d' e.2.2.2.1 0 (am_ent (st.take (am_in e.2.2.2.1).2.1).reverse (am_in e.2.2.2.1).2.2.1) [] h with
      | some (v, h') => (match am_isT v with
        | some a => bif Nat.beq (am_in e.2.2.2.1).2.2.2 0 then am_thr rec d y pc ls a h' else none
        | none => rec d y (pc + 3) ls (v.toList ++ st.drop (am_in e.2.2.2.1).2.1) h')
      | none => none)
    else none
/-- a text's length and its characters -/
def am_cas (rec : am_F) (d y pc : Nat) (ls st : List Value) (h : am_H) (e : am_E) : Option (Option Value × am_H) :=
  match d with
  | 0 => none
  | d' + 1 =>
    bif Nat.beq e.2.2.2.1 1003 then (match st with
      | .ref k :: r => bif Nat.ble 7 k && Nat.blt k 23 && Nat.ble (am_cs r) 8 && Nat.ble 2 d' && am_sM e.1 (am_in y).1 1003 then rec d y (pc + 3) ls (.int (Int32.ofNat (am_slen (k - 7))) :: r) h else none
      | _ => none)
    else (match st with
      | .int j :: .ref k :: r => bif Nat.ble 7 k && Nat.blt k 23 && Nat.ble (am_cs r) 8 && Nat.ble 4 d' && am_sM e.1 (am_in y).1 1004 && decide (0 ≤ j) && Nat.blt j.toNatClampNeg (am_slen (k - 7)) then rec d y (pc + 3) ls (.int (Int32.ofNat (am_sch (k - 7) j.toNatClampNeg)) :: r) h else none
      | _ => none)
def am_cal (rec : am_F) (d y pc : Nat) (ls st : List Value) (h : am_H) (e : am_E) : Option (Option Value × am_H) :=
  bif Nat.beq e.2.2.2.1 1003 || Nat.beq e.2.2.2.1 1004 then am_cas rec d y pc ls st h e else am_cal0 rec d y pc ls st h e
def am_rok (rt : Option FieldType) (v : Int32) : Bool := match rt with
  | some .int => true
  | some .boolean => v == 0 || v == 1
  | _ => false
/-- a text -/
def am_lds (rec : am_F) (d y pc : Nat) (ls st : List Value) (h : am_H) (e : am_E) : Option (Option Value × am_H) := match e.1 with
  | .ldc idx => (match am_sR (am_in y).1 idx with
    | some i => rec d y (pc + 2) ls (.ref (7 + i) :: st) h
    | none => none)
  | .ldc_w idx => (match am_sR (am_in y).1 idx with
    | some i => rec d y (pc + 3) ls (.ref (7 + i) :: st) h
    | none => none)
  | _ => none
def am_one (rec : am_F) (d y pc : Nat) (ls st : List Value) (h : am_H) : Option (Option Value × am_H) := match (bif Nat.blt y am_NM && Nat.blt pc (am_bd y) then am_code y pc else none) with
  | none => none
  | some e => (match e.1 with
    | .ireturn => (match st with
      | [.int v] => bif am_rok (am_rt y) v then some (some (.int v), h) else none
      | _ => none)
    | .lreturn => (match st with
      | [.long v] => some (some (.long v), h)
      | _ => none)
    | .areturn => (match st with
      | [.null] => some (some .null, h)
      | [.ref a] => some (some (.ref a), h)
      | _ => none)
    | .return_ => (match st with
      | [] => some (none, h)
      | _ => none)
    | .athrow => (match st with
      | .ref a :: _ => am_thr rec d y pc ls a h
      | _ => none)
    | .invokestatic _ => am_cal rec d y pc ls st h e
    | .invokevirtual _ => am_cal rec d y pc ls st h e
    | .invokespecial _ => am_cal rec d y pc ls st h e
    | _ => (match am_st e pc ls st h with
      | some (pc', ls', st', h') => rec d y pc' ls' st' h'
      | none => am_lds rec d y pc ls st h e))
noncomputable def am_run (n : Nat) : am_F := Nat.rec (fun _ _ _ _ _ _ => none) (fun _ rec => am_one rec) n
theorem am_run_s (n d y pc : Nat) (ls st : List Value) (h : am_H) : am_run (n + 1) d y pc ls st h = am_one (am_run n) d y pc ls st h := rfl
end
section
/-! THE PLAIN MACHINE AND THE MACHINE: what a heap of the one is in the other -/
def am_ga (ad : Nat → Nat) (v : Value) : Value := match v with
  | .ref k => .ref (ad k)
  | v => v
def am_ad (B0 : Nat) (ca : Nat → Nat) (k : Nat) : Nat := if k < am_n0 then ca k else B0 + (k - am_n0)
theorem am_ad_hi {B0 : Nat} {ca : Nat → Nat} {k : Nat} (h : am_n0 ≤ k) : am_ad B0 ca k = B0 + (k - am_n0) := if_neg (Nat.not_lt.mpr h)
theorem am_ad_lo {B0 : Nat} {ca : Nat → Nat} {k : Nat} (h : k < am_n0) : am_ad B0 ca k = ca k := if_pos h
theorem am_ad_ne {B0 : Nat} {ca : Nat → Nat} {k j : Nat} (hk : am_n0 ≤ k) (hj : am_n0 ≤ j) (hn : k ≠ j) : am_ad B0 ca k ≠ am_ad B0 ca j := by
  rw [am_ad_hi hk, am_ad_hi hj]
  omega
theorem am_ga_cat (ad : Nat → Nat) (v : Value) : (am_ga ad v).category = v.category := by cases v <;> rfl
theorem am_cs_map (ad : Nat → Nat) (st : List Value) : ((st.map (am_ga ad)).map fun v => v.category).sum = am_cs st := by
  unfold am_cs
  rw [List.map_map]
  congr 1
  apply List.map_congr_left
  intro v _
  exact am_ga_cat ad v
def am_cellR (D : va_G) (dA : Nat → ClassId) (ad : Nat → Nat) (h : am_H) (H : Heap) (k : Nat) : Prop :=
  ((h.2.2.1 k).1 = 0 ∧ ∃ r : vw_C, vwCl[(h.2.2.1 k).2.1]? = some r ∧ t_OB (ad k) (D.1 (h.2.2.1 k).2.1) r.2.2 (D.2 (h.2.2.1 k).2.1) H (fun j => am_ga ad (h.2.2.2 k j))) ∨
  ((h.2.2.1 k).1 = 1 ∧ am_isA (h.2.2.1 k).2.1 = true ∧ H[ad k]? = some (arrV (dA (h.2.2.1 k).2.1) (h.2.2.1 k).2.2 (fun j => am_ga ad (h.2.2.2 k j))))
def am_Rep (D : va_G) (dA : Nat → ClassId) (B0 : Nat) (ca : Nat → Nat) (h : am_H) (H : Heap) : Prop :=
  am_n0 ≤ h.1 ∧ H.size = B0 + (h.1 - am_n0) ∧ ∀ k, am_n0 ≤ k → k < h.1 → am_cellR D dA (am_ad B0 ca) h H k
def am_Con (B0 : Nat) (ca : Nat → Nat) (h : am_H) (U : State) (H : Heap) : Prop :=
  ∀ k, k < am_n0 → (h.2.2.1 k).1 ≠ 0 ∧ (h.2.2.1 k).1 ≠ 1 ∧ ((h.2.2.1 k).1 = 2 → (h.2.2.1 k).2.1 = 0 ∧ va_T .int (ca k) (h.2.2.1 k).2.2 (fun j => am_ga (am_ad B0 ca) (h.2.2.2 k j)) (fun q => B0 ≤ q) U H)
def am_rn (v : Value) : Prop := v = .null ∨ ∃ a, v = .ref a
/-- the texts of the program: text i at ca (7 + i), its bytes at ca (23 + i) -/
def am_Str (B0 : Nat) (ca : Nat → Nat) (U : State) (H : Heap) : Prop :=
  (∀ i, i < 16 → va_O "java/lang/String" (ca (7 + i)) (fun q => B0 ≤ q) U H ∧ va_OF "java/lang/String" "coder" "B" (.int 0) (ca (7 + i)) (fun q => B0 ≤ q) U H ∧ va_OF "java/lang/String" "value" "[B" (.ref (ca (23 + i))) (ca (7 + i)) (fun q => B0 ≤ q) U H ∧ va_T .byte (ca (23 + i)) (am_slen i) (fun j => .int (Int32.ofNat (am_sch i j))) (fun q => B0 ≤ q) U H) ∧
  va_Z "java/lang/String" "COMPACT_STRINGS" "Z" (.int 1) (fun q => B0 ≤ q) U H ∧
  (∃ v, am_rn v ∧ va_Z "jdk/internal/util/Preconditions" "SIOOBE_FORMATTER" "Ljava/util/function/BiFunction;" v (fun q => B0 ≤ q) U H)
theorem am_Str.moved {B0 : Nat} {ca : Nat → Nat} {u U : State} {H : Heap} (hv : u.vm.Alike U.vm) (h : am_Str B0 ca u H) : am_Str B0 ca U H := by
  obtain ⟨h1, h2, v, h3, h4⟩ := h
  exact ⟨fun i hi => ⟨va_O.moved hv (h1 i hi).1, va_OF.moved hv (h1 i hi).2.1, va_OF.moved hv (h1 i hi).2.2.1, va_T.moved hv (h1 i hi).2.2.2⟩, h2.moved hv, v, h3, h4.moved hv⟩
theorem am_Str.kept {B0 : Nat} {ca : Nat → Nat} {U : State} {H H' : Heap} (h : am_Str B0 ca U H) (ho : ∀ q, q < H.size → ¬ B0 ≤ q → H'[q]? = H[q]?) : am_Str B0 ca U H' := by
  obtain ⟨h1, h2, v, h3, h4⟩ := h
  exact ⟨fun i hi => ⟨(h1 i hi).1.kept ho, (h1 i hi).2.1.kept ho, (h1 i hi).2.2.1.kept ho, (h1 i hi).2.2.2.kept ho⟩, h2.kept ho, v, h3, h4.kept ho⟩
def am_Sta (B0 : Nat) (ca : Nat → Nat) (U : State) (H : Heap) : Prop :=
  (∀ k, 1 ≤ k → k ≤ 6 → va_Z (am_sts k).1 (am_sts k).2.1 (am_sts k).2.2 (.ref (ca k)) (fun q => B0 ≤ q) U H) ∧
  (∃ v, am_rn v ∧ va_Z "java/lang/Throwable" "UNASSIGNED_STACK" "[Ljava/lang/StackTraceElement;" v (fun q => B0 ≤ q) U H) ∧
  (∃ v, am_rn v ∧ va_Z "java/lang/Throwable" "SUPPRESSED_SENTINEL" "Ljava/util/List;" v (fun q => B0 ≤ q) U H) ∧ am_Str B0 ca U H
def am_isN (c : Cond) : Bool := match c with
  | .methodLinkNest .. => true
  | _ => false
def am_Tab (D : va_G) (dA : Nat → ClassId) (ca : Nat → Nat) (U : State) : Prop :=
  va_K D vwCl [] U ∧ (∀ tc, am_isA tc = true → ArrOfT U (dA tc) (am_aty tc) ∧ va_RA U (dA tc) (am_aty tc)) ∧ (∀ w, w ∈ lw_tbl → am_isN w = true → va_Nw w U) ∧ (∀ ci, am_isA (ci + 4) = true → va_AO (am_cn ci) U) ∧ ∀ q ∈ am_sRefs, vk_R q.1 q.2.1 (am_stx.getD q.2.2 "") (ca (7 + q.2.2)) U
theorem am_Tab.warm {D : va_G} {dA : Nat → ClassId} {ca : Nat → Nat} {s U : State} (hW : s.WarmedH U.vm) (h : am_Tab D dA ca s) : am_Tab D dA ca U := by
  obtain ⟨h1, h2, h3, h4, h5⟩ := h
  refine ⟨va_K.moved hW.alike h1, fun tc htc => ⟨arrOfT_moved hW.alike (h2 tc htc).1, (h2 tc htc).2.moved hW.alike⟩, fun w hw hn => ?_, fun ci hci => (h4 ci hci).moved hW.alike, fun q hq => (h5 q hq).warm hW⟩
  have h := h3 w hw hn
  cases w <;> first | (exact va_Nw.warmM hW h) | (exact absurd hn (by decide)) | (simp [am_isN] at hn)
theorem am_Con.warm {B0 : Nat} {ca : Nat → Nat} {h : am_H} {s U : State} {H : Heap} (hW : s.WarmedH U.vm) (hC : am_Con B0 ca h s H) : am_Con B0 ca h U H :=
  fun k hk => ⟨(hC k hk).1, (hC k hk).2.1, fun h2 => ⟨((hC k hk).2.2 h2).1, ((hC k hk).2.2 h2).2.moved hW.alike⟩⟩
theorem am_Sta.warm {B0 : Nat} {ca : Nat → Nat} {s U : State} {H : Heap} (hW : s.WarmedH U.vm) (hC : am_Sta B0 ca s H) : am_Sta B0 ca U H := by
  obtain ⟨h1, ⟨v, h2, h3⟩, ⟨w, h4, h5⟩, h6⟩ := hC
  exact ⟨fun k a b => (h1 k a b).moved hW.alike, ⟨v, h2, h3.moved hW.alike⟩, ⟨w, h4, h5.moved hW.alike⟩, h6.moved hW.alike⟩
/-- the cells that are there from the start stay -/
theorem am_Con.kept {B0 : Nat} {ca : Nat → Nat} {h h' : am_H} {U : State} {H H' : Heap} (hC : am_Con B0 ca h U H) (hs : ∀ k, k < am_n0 → h'.2.2.1 k = h.2.2.1 k ∧ h'.2.2.2 k = h.2.2.2 k) (ho : ∀ q, q < H.size → ¬ B0 ≤ q → H'[q]? = H[q]?) : am_Con B0 ca h' U H' := by
  intro k hk
  obtain ⟨a1, a2⟩ := hs k hk
  obtain ⟨b1, b2, b3⟩ := hC k hk
  rw [a1, a2]
  exact ⟨b1, b2, fun h2 => ⟨(b3 h2).1, (b3 h2).2.kept ho⟩⟩
theorem am_Sta.kept {B0 : Nat} {ca : Nat → Nat} {U : State} {H H' : Heap} (hC : am_Sta B0 ca U H) (ho : ∀ q, q < H.size → ¬ B0 ≤ q → H'[q]? = H[q]?) : am_Sta B0 ca U H' := by
  obtain ⟨h1, ⟨v, h2, h3⟩, ⟨w, h4, h5⟩, h6⟩ := hC
  exact ⟨fun k a b => (h1 k a b).kept ho, ⟨v, h2, h3.kept ho⟩, ⟨w, h4, h5.kept ho⟩, h6.kept ho⟩
theorem am_cellR.kept {D : va_G} {dA : Nat → ClassId} {ad : Nat → Nat} {h h' : am_H} {H H' : Heap} {k : Nat} (hc : am_cellR D dA ad h H k) (hs : h'.2.2.1 k = h.2.2.1 k) (hv : h'.2.2.2 k = h.2.2.2 k) (ho : H'[ad k]? = H[ad k]?) : am_cellR D dA ad h' H' k := by
  unfold am_cellR at hc ⊢
  rw [hs, hv]
  rcases hc with ⟨h1, r, h2, h3⟩ | ⟨h1, h2, h3⟩
  · exact Or.inl ⟨h1, r, h2, h3.kept ho⟩
  · exact Or.inr ⟨h1, h2, by rw [ho]; exact h3⟩
/-- one cell is written -/
theorem am_Rep.put {D : va_G} {dA : Nat → ClassId} {B0 : Nat} {ca : Nat → Nat} {h h' : am_H} {H H' : Heap} (hR : am_Rep D dA B0 ca h H) {k0 : Nat} (hk0 : am_n0 ≤ k0) (h1 : h'.1 = h.1) (hsh : h'.2.2.1 = h.2.2.1) (hV : ∀ k, k ≠ k0 → h'.2.2.2 k = h.2.2.2 k) (hz : H'.size = H.size) (ho : ∀ q, q ≠ am_ad B0 ca k0 → H'[q]? = H[q]?) (hc : am_cellR D dA (am_ad B0 ca) h' H' k0) : am_Rep D dA B0 ca h' H' := by
  obtain ⟨a1, a2, a3⟩ := hR
  refine ⟨by rw [h1]; exact a1, by rw [hz, h1]; exact a2, fun k hk hlt => ?_⟩
  by_cases e : k = k0
  · subst e
    exact hc
  · exact (a3 k hk (by rw [← h1]; exact hlt)).kept (by rw [hsh]) (hV k e) (ho _ (am_ad_ne hk hk0 e))
/-- one cell is new -/
theorem am_Rep.mk {D : va_G} {dA : Nat → ClassId} {B0 : Nat} {ca : Nat → Nat} {h : am_H} {H H' : Heap} (hR : am_Rep D dA B0 ca h H) {sh : am_Sh} {N : Nat} {d : Nat → Value} (hz : H'.size = H.size + 1) (ho : ∀ q, q < H.size → H'[q]? = H[q]?) (hc : am_cellR D dA (am_ad B0 ca) (am_mk h sh N d) H' h.1) : am_Rep D dA B0 ca (am_mk h sh N d) H' := by
  obtain ⟨a1, a2, a3⟩ := hR
  refine ⟨Nat.le_succ_of_le a1, by show H'.size = B0 + (h.1 + 1 - am_n0); omega, fun k hk hlt => ?_⟩
  by_cases e : k = h.1
  · subst e
    exact hc
  · have hlt' : k < h.1 := by
      have : k < h.1 + 1 := hlt
      omega
    refine (a3 k hk hlt').kept (by simp [am_mk, e]) (by funext j; simp [am_mk, am_row, e]) (ho _ ?_)
    rw [am_ad_hi hk]
    omega
theorem am_ad_new {D : va_G} {dA : Nat → ClassId} {B0 : Nat} {ca : Nat → Nat} {h : am_H} {H : Heap} (hR : am_Rep D dA B0 ca h H) : am_ad B0 ca h.1 = H.size := by
  rw [am_ad_hi hR.1, hR.2.1]
/-! the locals -/
def am_LR (ad : Nat → Nat) (rls : Array Slot) (nL : Nat) (ls : List Value) : Prop :=
  ls.length = nL ∧ rls.size = nL ∧ lv_wf rls ∧ ∀ (i : Nat) (v : Value), ls[i]? = some v → v ≠ am_ph → rls[i]? = some (Slot.val (am_ga ad v))
def am_pr (ad : Nat → Nat) (ls : List Value) : List (Nat × Value) := (List.range ls.length).filterMap fun i => match ls[i]? with
  | some v => if v = am_ph then none else some (i, am_ga ad v)
  | none => none
theorem am_pr_mem {ad : Nat → Nat} {ls : List Value} {i : Nat} {v : Value} (h : ls[i]? = some v) (hv : v ≠ am_ph) : (i, am_ga ad v) ∈ am_pr ad ls := by
  refine List.mem_filterMap.mpr ⟨i, List.mem_range.mpr (List.getElem?_eq_some_iff.mp h).1, ?_⟩
  rw [h]
  simp [hv]
theorem am_pr_of {ad : Nat → Nat} {ls : List Value} {q : Nat × Value} (h : q ∈ am_pr ad ls) : ∃ v, ls[q.1]? = some v ∧ v ≠ am_ph ∧ q.2 = am_ga ad v := by
  obtain ⟨i, -, hi⟩ := List.mem_filterMap.mp h
  cases hl : ls[i]? with
  | none => rw [hl] at hi; simp at hi
  | some v =>
    rw [hl] at hi
    by_cases hv : v = am_ph
    · simp [hv] at hi
    · simp only [hv, if_false, Option.some.injEq] at hi
      subst hi
      exact ⟨v, hl, hv, rfl⟩
theorem am_LR.has {ad : Nat → Nat} {rls : Array Slot} {nL : Nat} {ls : List Value} (h : am_LR ad rls nL ls) : lv_has rls nL (am_pr ad ls) := by
  refine ⟨h.2.1, h.2.2.1, fun q hq => ?_⟩
  obtain ⟨v, h1, h2, h3⟩ := am_pr_of hq
  rw [h3]
  exact h.2.2.2 q.1 v h1 h2
theorem am_kill_len (ls : List Value) (i : Nat) : (am_kill ls i).length = ls.length := by
  unfold am_kill
  split
  · rfl
  · split
    · rename_i v _
      cases Nat.beq v.category 2 <;> simp
    · rfl
theorem am_kill_get {ls : List Value} {i j : Nat} {v : Value} (h : (am_kill ls i)[j]? = some v) (hv : v ≠ am_ph) : ls[j]? = some v ∧ ¬ (j + 1 = i ∧ v.category = 2) := by
  unfold am_kill at h
  split at h
  · exact ⟨h, fun q => absurd q.1 (Nat.succ_ne_zero j)⟩
  · rename_i k
    split at h
    · rename_i w hw
      by_cases hc : w.category = 2
      · rw [hc] at h
        have h : (ls.set k am_ph)[j]? = some v := h
        by_cases e : k = j
        · subst e
          have hlt : k < ls.length := (List.getElem?_eq_some_iff.mp hw).1
          rw [List.getElem?_set_self hlt] at h
          exact absurd (Option.some.inj h).symm hv
        · rw [List.getElem?_set_ne e] at h
          exact ⟨h, fun q => e (by omega)⟩
      · have hb : Nat.beq w.category 2 = false := by
          rcases lv_cat w with q | q
          · rw [q]; rfl
          · exact absurd q hc
        rw [hb] at h
        simp only [cond_false] at h
        refine ⟨h, fun q => ?_⟩
        have e : k = j := by omega
        subst e
        rw [hw] at h
        cases h
        exact hc q.2
    · rename_i hw
      refine ⟨h, fun q => ?_⟩
      have e : k = j := by omega
      subst e
      rw [hw] at h
      cases h
theorem am_LR.set1 {ad : Nat → Nat} {rls rls' : Array Slot} {nL i : Nat} {ls : List Value} {v : Value} (h : am_LR ad rls nL ls) (h' : lv_has rls' nL ((i, am_ga ad v) :: (am_pr ad ls).filter (fun q => !(q.1 == i) && !(q.1 + 1 == i && q.2.category == 2)))) : am_LR ad rls' nL (am_set1 ls i v) := by
  refine ⟨by rw [am_set1, List.length_set, am_kill_len]; exact h.1, h'.1, h'.2.1, fun j w hj hw => ?_⟩
  unfold am_set1 at hj
  by_cases e : i = j
  · subst e
    have hlt : i < (am_kill ls i).length := by
      have := (List.getElem?_eq_some_iff.mp hj).1
      rwa [List.length_set] at this
    rw [List.getElem?_set_self hlt] at hj
    cases hj
    exact h'.2.2 _ List.mem_cons_self
  · rw [List.getElem?_set_ne e] at hj
    obtain ⟨h1, h2⟩ := am_kill_get hj hw
    refine h'.2.2 (j, am_ga ad w) (List.mem_cons_of_mem _ (List.mem_filter.mpr ⟨am_pr_mem h1 hw, ?_⟩))
    have e1 : (j == i) = false := by simp [Ne.symm e]
    simp only [e1, Bool.not_false, Bool.true_and, am_ga_cat]
    cases hh : (j + 1 == i && w.category == 2) with
    | false => rfl
    | true =>
      simp only [Bool.and_eq_true, beq_iff_eq] at hh
      exact absurd hh h2
theorem am_LR.set2 {ad : Nat → Nat} {rls rls' : Array Slot} {nL i : Nat} {ls : List Value} {v : Value} (h : am_LR ad rls nL ls) (h' : lv_has rls' nL ((i, am_ga ad v) :: (am_pr ad ls).filter (fun q => !(q.1 == i) && (!(q.1 == i + 1) && !(q.1 + 1 == i && q.2.category == 2))))) : am_LR ad rls' nL (am_set2 ls i v) := by
  refine ⟨by rw [am_set2, List.length_set, List.length_set, am_kill_len]; exact h.1, h'.1, h'.2.1, fun j w hj hw => ?_⟩
  unfold am_set2 at hj
  by_cases e2 : i + 1 = j
  · subst e2
    have hlt : i + 1 < ((am_kill ls i).set i v).length := by
      have := (List.getElem?_eq_some_iff.mp hj).1
      rwa [List.length_set] at this
    rw [List.getElem?_set_self hlt] at hj
    exact absurd (Option.some.inj hj).symm hw
  · rw [List.getElem?_set_ne e2] at hj
    by_cases e : i = j
    · subst e
      have hlt : i < (am_kill ls i).length := by
        have := (List.getElem?_eq_some_iff.mp hj).1
        rwa [List.length_set] at this
      rw [List.getElem?_set_self hlt] at hj
      cases hj
      exact h'.2.2 _ List.mem_cons_self
    · rw [List.getElem?_set_ne e] at hj
      obtain ⟨h1, h2⟩ := am_kill_get hj hw
      refine h'.2.2 (j, am_ga ad w) (List.mem_cons_of_mem _ (List.mem_filter.mpr ⟨am_pr_mem h1 hw, ?_⟩))
      have e1 : (j == i) = false := by simp [Ne.symm e]
      have e3 : (j == i + 1) = false := by simp [Ne.symm e2]
      simp only [e1, e3, Bool.not_false, Bool.true_and, am_ga_cat]
      cases hh : (j + 1 == i && w.category == 2) with
      | false => rfl
      | true =>
        simp only [Bool.and_eq_true, beq_iff_eq] at hh
        exact absurd hh h2
end
section
/-! A STEP OF THE PLAIN MACHINE IS A STEP OF THE MACHINE -/
theorem am_ph_i (x : Int32) : Value.int x ≠ am_ph := by
  unfold am_ph; intro q; cases q
theorem am_ph_l (x : Int64) : Value.long x ≠ am_ph := by
  unfold am_ph; intro q; cases q
theorem am_ph_r (x : Nat) : Value.ref x ≠ am_ph := by
  unfold am_ph; intro q; cases q
theorem am_ph_n : Value.null ≠ am_ph := by
  unfold am_ph; intro q; cases q
theorem am_cond {α : Type} {b : Bool} {x : Option α} {y : α} (h : (bif b then x else none) = some y) : b = true ∧ x = some y := by
  cases b
  · cases h
  · exact ⟨rfl, h⟩
theorem am_ifn {α : Type} {c : Prop} {x : Option α} {y : α} [inst : Decidable c] (h : (if c then none else x) = some y) : ¬ c ∧ x = some y := by
  by_cases hc : c
  · rw [if_pos hc] at h; cases h
  · rw [if_neg hc] at h; exact ⟨hc, h⟩
theorem am_blt {a b : Nat} (h : Nat.blt a b = true) : a < b := Nat.le_of_ble_eq_true h
theorem am_beq {a b : Nat} (h : Nat.beq a b = true) : a = b := Nat.eq_of_beq_eq_true h
def am_Cx (p : Program) (s : State) (m : MethodId) (args : Array Value) (meth : Method) (c : Code) (D : va_G) (dA : Nat → ClassId) (B0 : Nat) (ca : Nat → Nat) (y : Nat) : Prop :=
  p.tables.exec = Jvm.exec ∧ c.code = am_by y ∧ c.maxLocals = (am_in y).2.2.1 ∧ s.vm.findClass (am_cn (am_in y).1) = some m.cls ∧ (∀ w ∈ am_big, w.before args s = true) ∧ am_Tab D dA ca s ∧ ((am_in y).2.2.2 = 2 → meth.name = "<init>") ∧ B0 ≤ s.heap.size
def am_Ok (s : State) (D : va_G) (dA : Nat → ClassId) (B0 : Nat) (ca : Nat → Nat) (h : am_H) (H : Heap) (locs : List Loc) : Prop :=
  am_Rep D dA B0 ca h H ∧ am_Con B0 ca h s H ∧ am_Sta B0 ca s H ∧ ∀ q ∈ locs, B0 ≤ q.base
def am_Wp (p : Program) (l : Launch) (e : Env) (R : Room) (s : State) (m : MethodId) (args : Array Value) (below : List Frame) (meth : Method) (c : Code) (Q : State → Prop) (D : va_G) (dA : Nat → ClassId) (B0 : Nat) (ca : Nat → Nat) (y : Nat) (h0 : am_H) (pc : Nat) (ls st : List Value) (h : am_H) : Prop :=
  ∀ (H : Heap) (locs : List Loc) (rls : Array Slot), am_Ok s D dA B0 ca h H locs → am_LR (am_ad B0 ca) rls (am_in y).2.2.1 ls → W p l e R s m args below meth c H locs (h.1 - h0.1) (h.2.1 - h0.2.1) Q (F0 m pc rls (st.map (am_ga (am_ad B0 ca))))
/-! words out of the pools -/
theorem am_fl {w own idx a b : Nat} (h : am_pl w = (1, own, idx, a, b)) : Cond.fieldLink (am_cn own) idx (am_TT a b).1 (am_TT a b).2.1 (am_TT a b).2.2.1 ∈ am_big := by
  obtain ⟨h1, h2⟩ := am_kW (w := w) (by rw [h]; exact Nat.succ_ne_zero _)
  rw [h] at h1
  rw [h1] at h2
  exact am_big_of h2 rfl
theorem am_flS {w own idx a b : Nat} (h : am_pl w = (6, own, idx, a, b)) : Cond.fieldLink (am_cn own) idx (am_sts a).1 (am_sts a).2.1 (am_sts a).2.2 ∈ am_big := by
  obtain ⟨h1, h2⟩ := am_kW (w := w) (by rw [h]; exact Nat.succ_ne_zero _)
  rw [h] at h1
  rw [h1] at h2
  exact am_big_of h2 rfl
theorem am_clk {w own idx a b : Nat} (h : am_pl w = (2, own, idx, a, b)) : Cond.classLink (am_cn own) idx (am_cn a) ∈ am_big := by
  obtain ⟨h1, h2⟩ := am_kW (w := w) (by rw [h]; exact Nat.succ_ne_zero _)
  rw [h] at h1
  rw [h1] at h2
  exact am_big_of h2 rfl
theorem am_ci {w own idx a b : Nat} (h : am_pl w = (3, own, idx, a, b)) : Cond.constant (am_cn own) idx (Int32.ofNat a) ∈ am_big := by
  obtain ⟨h1, h2⟩ := am_kW (w := w) (by rw [h]; exact Nat.succ_ne_zero _)
  rw [h] at h1
  rw [h1] at h2
  exact am_big_of h2 rfl
theorem am_cL {w own idx a b : Nat} (h : am_pl w = (7, own, idx, a, b)) : Cond.constantLong (am_cn own) idx (Int64.ofNat a) ∈ am_big := by
  obtain ⟨h1, h2⟩ := am_kW (w := w) (by rw [h]; exact Nat.succ_ne_zero _)
  rw [h] at h1
  rw [h1] at h2
  exact am_big_of h2 rfl
theorem am_mlk {w own idx a b : Nat} (h : am_pl w = (4, own, idx, a, b)) : Cond.methodLink (am_cn own) idx (am_cnm a) ∈ am_big := by
  obtain ⟨h1, h2⟩ := am_kW (w := w) (by rw [h]; exact Nat.succ_ne_zero _)
  rw [h] at h1
  rw [h1] at h2
  exact am_big_of h2 rfl
theorem am_mln {w own idx a b : Nat} (h : am_pl w = (5, own, idx, a, b)) : Cond.methodLinkNest (am_cn own) idx (am_cnm a) "PoetsBook" ∈ lw_tbl := by
  obtain ⟨h1, h2⟩ := am_kW (w := w) (by rw [h]; exact Nat.succ_ne_zero _)
  rw [h] at h1
  rw [h1] at h2
  exact h2
/-! cells -/
def am_fs (ad : Nat → Nat) (h : am_H) (x ci : Nat) : List Value := (List.range (am_N ci)).map fun j => am_ga ad (h.2.2.2 x j)
theorem am_fs_get {ad : Nat → Nat} {h : am_H} {x ci j : Nat} (hj : j < am_N ci) : (am_fs ad h x ci)[j]? = some (am_ga ad (h.2.2.2 x j)) := by
  unfold am_fs
  rw [List.getElem?_map, List.getElem?_range hj]
  rfl
theorem am_isO_spec {h : am_H} {x ci : Nat} (hi : am_isO h x ci = true) : x < h.1 ∧ (h.2.2.1 x).1 = 0 ∧ (h.2.2.1 x).2.1 = ci := by
  unfold am_isO at hi
  simp only [Bool.and_eq_true] at hi
  exact ⟨am_blt hi.1.1, am_beq hi.1.2, am_beq hi.2⟩
theorem am_obj {s : State} {D : va_G} {dA : Nat → ClassId} {B0 : Nat} {ca : Nat → Nat} {h : am_H} {H : Heap} {locs : List Loc} {x ci : Nat} (hO : am_Ok s D dA B0 ca h H locs) (hi : am_isO h x ci = true) (hci : ci < 14) : am_n0 ≤ x ∧ t_OB (am_ad B0 ca x) (D.1 ci) (am_N ci) (D.2 ci) H (fun j => am_ga (am_ad B0 ca) (h.2.2.2 x j)) := by
  obtain ⟨h1, h2, h3⟩ := am_isO_spec hi
  have hx : am_n0 ≤ x := by
    rcases Nat.lt_or_ge x am_n0 with q | q
    · exact absurd h2 (hO.2.1 x q).1
    · exact q
  refine ⟨hx, ?_⟩
  rcases hO.1.2.2 x hx h1 with ⟨-, r, hr, ho⟩ | ⟨q, -⟩
  · rw [h3] at hr ho
    rw [am_cl ci hci] at hr
    cases hr
    exact ho
  · rw [h2] at q; cases q
theorem am_objP {s : State} {D : va_G} {dA : Nat → ClassId} {B0 : Nat} {ca : Nat → Nat} {h : am_H} {H : Heap} {locs : List Loc} {x ci : Nat} (hO : am_Ok s D dA B0 ca h H locs) (hi : am_isO h x ci = true) (hci : ci < 14) : va_P D vwCl [(am_ad B0 ca x, .inr (ci, am_fs (am_ad B0 ca) h x ci))] H := by
  intro k q hk
  have hz : k < 1 := (List.getElem?_eq_some_iff.mp hk).1
  rw [show k = 0 by omega] at hk
  cases hk
  refine ⟨_, am_cl ci hci, (am_obj hO hi hci).2.to (fun j hj => ?_)⟩
  show _ = (am_fs (am_ad B0 ca) h x ci).getD j .null
  rw [List.getD_eq_getElem?_getD, am_fs_get hj]
  rfl
theorem am_arr {s : State} {D : va_G} {dA : Nat → ClassId} {B0 : Nat} {ca : Nat → Nat} {h : am_H} {H : Heap} {locs : List Loc} {x : Nat} (hO : am_Ok s D dA B0 ca h H locs) (hx : x < h.1) (h1 : (h.2.2.1 x).1 = 1) : am_n0 ≤ x ∧ am_isA (h.2.2.1 x).2.1 = true ∧ H[am_ad B0 ca x]? = some (arrV (dA (h.2.2.1 x).2.1) (h.2.2.1 x).2.2 (fun j => am_ga (am_ad B0 ca) (h.2.2.2 x j))) := by
  have hx0 : am_n0 ≤ x := by
    rcases Nat.lt_or_ge x am_n0 with q | q
    · exact absurd h1 (hO.2.1 x q).2.1
    · exact q
  refine ⟨hx0, ?_⟩
  rcases hO.1.2.2 x hx0 hx with ⟨q, -⟩ | ⟨-, q2, q3⟩
  · rw [h1] at q; cases q
  · exact ⟨q2, q3⟩
theorem am_con {s : State} {D : va_G} {dA : Nat → ClassId} {B0 : Nat} {ca : Nat → Nat} {h : am_H} {H : Heap} {locs : List Loc} {x : Nat} (hO : am_Ok s D dA B0 ca h H locs) (hx : x < h.1) (h2 : (h.2.2.1 x).1 = 2) : x < am_n0 ∧ (h.2.2.1 x).2.1 = 0 ∧ va_T .int (am_ad B0 ca x) (h.2.2.1 x).2.2 (fun j => am_ga (am_ad B0 ca) (h.2.2.2 x j)) (fun q => B0 ≤ q) s H := by
  have hx0 : x < am_n0 := by
    rcases Nat.lt_or_ge x am_n0 with q | q
    · exact q
    · rcases hO.1.2.2 x q hx with ⟨q, -⟩ | ⟨q, -⟩ <;> (rw [h2] at q; cases q)
  obtain ⟨-, -, h3⟩ := hO.2.1 x hx0
  refine ⟨hx0, (h3 h2).1, ?_⟩
  rw [am_ad_lo hx0]
  exact (h3 h2).2
/-- a write into a cell of ours -/
theorem am_Ok.put {s : State} {D : va_G} {dA : Nat → ClassId} {B0 : Nat} {ca : Nat → Nat} {h h' : am_H} {H H' : Heap} {locs : List Loc} {x sl : Nat} (hO : am_Ok s D dA B0 ca h H locs) (hx : am_n0 ≤ x) (h1 : h'.1 = h.1) (hsh : h'.2.2.1 = h.2.2.1) (hV : ∀ k, k ≠ x → h'.2.2.2 k = h.2.2.2 k) (hz : H'.size = H.size) (ho : ∀ q, q ≠ am_ad B0 ca x → H'[q]? = H[q]?) (hc : am_cellR D dA (am_ad B0 ca) h' H' x) : am_Ok s D dA B0 ca h' H' (locs ++ [⟨am_ad B0 ca x, sl⟩]) := by
  obtain ⟨a1, a2, a3, a4⟩ := hO
  have hB : B0 ≤ am_ad B0 ca x := by rw [am_ad_hi hx]; omega
  have hk : ∀ q, q < H.size → ¬ B0 ≤ q → H'[q]? = H[q]? := fun q _ hq => ho q (fun e => hq (by rw [e]; exact hB))
  refine ⟨a1.put hx h1 hsh hV hz ho hc, a2.kept (fun k hk => ⟨by rw [hsh], hV k (by omega)⟩) hk, a3.kept hk, fun q hq => ?_⟩
  rcases List.mem_append.mp hq with q1 | q1
  · exact a4 q q1
  · cases List.mem_singleton.mp q1
    exact hB
theorem am_Ok.mk {s : State} {D : va_G} {dA : Nat → ClassId} {B0 : Nat} {ca : Nat → Nat} {h : am_H} {H H' : Heap} {locs : List Loc} {sh : am_Sh} {N : Nat} {d : Nat → Value} (hO : am_Ok s D dA B0 ca h H locs) (hz : H'.size = H.size + 1) (ho : ∀ q, q < H.size → H'[q]? = H[q]?) (hc : am_cellR D dA (am_ad B0 ca) (am_mk h sh N d) H' h.1) : am_Ok s D dA B0 ca (am_mk h sh N d) H' locs := by
  obtain ⟨a1, a2, a3, a4⟩ := hO
  have hk : ∀ q, q < H.size → ¬ B0 ≤ q → H'[q]? = H[q]? := fun q hq _ => ho q hq
  refine ⟨a1.mk hz ho hc, a2.kept (fun k hk => ?_) hk, a3.kept hk, a4⟩
  have e : k ≠ h.1 := by have := a1.1; omega
  exact ⟨by simp [am_mk, e], by funext j; simp [am_mk, am_row, e]⟩
theorem am_fok_spec {ad : Nat → Nat} {ty : FieldType} {v : Value} (h : am_fok ty v = true) : narrow ty (am_ga ad v) = am_ga ad v ∧ fits ty (am_ga ad v) = true := by
  cases ty <;> cases v <;> first | (exact ⟨rfl, rfl⟩) | (exact absurd h (by decide)) | skip
  all_goals first
    | (exfalso; revert h; simp [am_fok]; done)
    | (rename_i x
       have h : (x == 0 || x == 1) = true := h
       simp only [Bool.or_eq_true, beq_iff_eq] at h
       rcases h with rfl | rfl
       · exact ⟨(by decide : narrow .boolean (.int 0) = .int 0), (by decide : fits .boolean (.int 0) = true)⟩
       · exact ⟨(by decide : narrow .boolean (.int 1) = .int 1), (by decide : fits .boolean (.int 1) = true)⟩)
theorem am_fin_spec {y a b : Nat} (h1 : a < 14) (h2 : b < am_N a) (h5 : (Nat.beq (am_in y).2.2.2 2 && Nat.beq a (am_in y).1 && Nat.blt (am_in y).1 12 || Nat.beq (am_in y).2.2.2 2 && Nat.beq a 13 && Nat.beq (am_in y).1 13) = true) : (am_in y).2.2.2 = 2 ∧ (am_TT a b).1 = am_cn (am_in y).1 := by
  simp only [Bool.or_eq_true, Bool.and_eq_true] at h5
  rcases h5 with ⟨⟨q1, q2⟩, q3⟩ | ⟨⟨q1, q2⟩, q3⟩
  · have q2 := am_beq q2
    have q3 := am_blt q3
    refine ⟨am_beq q1, ?_⟩
    rw [← q2]
    exact am_decl a h1 (by omega) b h2
  · have q2 := am_beq q2
    have q3 := am_beq q3
    refine ⟨am_beq q1, ?_⟩
    rw [q3, ← q2]
    exact am_decl a h1 (by omega) b h2
section AMK
variable {p : Program} {l : Launch} {e : Env} {R : Room} {s : State} {m : MethodId} {args : Array Value} {below : List Frame} {meth : Method} {c : Code} {Q : State → Prop} {D : va_G} {dA : Nat → ClassId} {B0 : Nat} {ca : Nat → Nat} {y : Nat} {h0 : am_H} {pc pc' : Nat} {ls st ls' st' : List Value} {h h' : am_H} {n : Nat} {t : Int} {a b w : Nat}

theorem am_k_aconst_null (C : am_Cx p s m args meth c D dA B0 ca y) (hd : decode (am_by y) pc = .ok (.aconst_null, 1)) (hce : am_chE y (am_in y).1 pc (.aconst_null, n, t, a, b, w) = true) (hs : am_st (.aconst_null, n, t, a, b, w) pc ls st h = some (pc', ls', st', h')) (k : am_Wp p l e R s m args below meth c Q D dA B0 ca y h0 pc' ls' st' h') : am_Wp p l e R s m args below meth c Q D dA B0 ca y h0 pc ls st h := by
  simp only [am_st] at hs
  cases hs
  intro H locs rls hO hL
  exact lv_null C.1 C.2.1 hd (k H locs rls hO hL)
theorem am_k_iconst {i : Int} (C : am_Cx p s m args meth c D dA B0 ca y) (hd : decode (am_by y) pc = .ok (.iconst i, 1)) (hce : am_chE y (am_in y).1 pc (.iconst i, n, t, a, b, w) = true) (hs : am_st (.iconst i, n, t, a, b, w) pc ls st h = some (pc', ls', st', h')) (k : am_Wp p l e R s m args below meth c Q D dA B0 ca y h0 pc' ls' st' h') : am_Wp p l e R s m args below meth c Q D dA B0 ca y h0 pc ls st h := by
  simp only [am_st] at hs
  cases hs
  intro H locs rls hO hL
  exact lv_iconst C.1 C.2.1 hd rfl (k H locs rls hO hL)
theorem am_k_bipush {i : Int} (C : am_Cx p s m args meth c D dA B0 ca y) (hd : decode (am_by y) pc = .ok (.bipush i, 2)) (hce : am_chE y (am_in y).1 pc (.bipush i, n, t, a, b, w) = true) (hs : am_st (.bipush i, n, t, a, b, w) pc ls st h = some (pc', ls', st', h')) (k : am_Wp p l e R s m args below meth c Q D dA B0 ca y h0 pc' ls' st' h') : am_Wp p l e R s m args below meth c Q D dA B0 ca y h0 pc ls st h := by
  simp only [am_st] at hs
  cases hs
  intro H locs rls hO hL
  exact lv_bipush C.1 C.2.1 hd rfl (k H locs rls hO hL)
theorem am_k_sipush {i : Int} (C : am_Cx p s m args meth c D dA B0 ca y) (hd : decode (am_by y) pc = .ok (.sipush i, 3)) (hce : am_chE y (am_in y).1 pc (.sipush i, n, t, a, b, w) = true) (hs : am_st (.sipush i, n, t, a, b, w) pc ls st h = some (pc', ls', st', h')) (k : am_Wp p l e R s m args below meth c Q D dA B0 ca y h0 pc' ls' st' h') : am_Wp p l e R s m args below meth c Q D dA B0 ca y h0 pc ls st h := by
  simp only [am_st] at hs
  cases hs
  intro H locs rls hO hL
  exact lv_sipush C.1 C.2.1 hd rfl (k H locs rls hO hL)
theorem am_k_lconst {i : Fin 2} (C : am_Cx p s m args meth c D dA B0 ca y) (hd : decode (am_by y) pc = .ok (.lconst i, 1)) (hce : am_chE y (am_in y).1 pc (.lconst i, n, t, a, b, w) = true) (hs : am_st (.lconst i, n, t, a, b, w) pc ls st h = some (pc', ls', st', h')) (k : am_Wp p l e R s m args below meth c Q D dA B0 ca y h0 pc' ls' st' h') : am_Wp p l e R s m args below meth c Q D dA B0 ca y h0 pc ls st h := by
  simp only [am_st] at hs
  cases hs
  intro H locs rls hO hL
  exact lv_lconst C.1 C.2.1 hd rfl (k H locs rls hO hL)
theorem am_k_iload {i : Nat} (C : am_Cx p s m args meth c D dA B0 ca y) (hd : decode (am_by y) pc = .ok (.iload i, 2)) (hce : am_chE y (am_in y).1 pc (.iload i, n, t, a, b, w) = true) (hs : am_st (.iload i, n, t, a, b, w) pc ls st h = some (pc', ls', st', h')) (k : am_Wp p l e R s m args below meth c Q D dA B0 ca y h0 pc' ls' st' h') : am_Wp p l e R s m args below meth c Q D dA B0 ca y h0 pc ls st h := by
  simp only [am_st] at hs
  split at hs
  · rename_i x hq
    cases hs
    intro H locs rls hO hL
    exact lv_iload C.1 C.2.1 hd (hL.2.2.2 i _ hq (am_ph_i x)) (k H locs rls hO hL)
  · cases hs
theorem am_k_iload_n {i : Fin 4} (C : am_Cx p s m args meth c D dA B0 ca y) (hd : decode (am_by y) pc = .ok (.iload_n i, 1)) (hce : am_chE y (am_in y).1 pc (.iload_n i, n, t, a, b, w) = true) (hs : am_st (.iload_n i, n, t, a, b, w) pc ls st h = some (pc', ls', st', h')) (k : am_Wp p l e R s m args below meth c Q D dA B0 ca y h0 pc' ls' st' h') : am_Wp p l e R s m args below meth c Q D dA B0 ca y h0 pc ls st h := by
  simp only [am_st] at hs
  split at hs
  · rename_i x hq
    cases hs
    intro H locs rls hO hL
    exact lv_iload_n C.1 C.2.1 hd rfl (hL.2.2.2 i.val _ hq (am_ph_i x)) (k H locs rls hO hL)
  · cases hs
theorem am_k_lload {i : Nat} (C : am_Cx p s m args meth c D dA B0 ca y) (hd : decode (am_by y) pc = .ok (.lload i, 2)) (hce : am_chE y (am_in y).1 pc (.lload i, n, t, a, b, w) = true) (hs : am_st (.lload i, n, t, a, b, w) pc ls st h = some (pc', ls', st', h')) (k : am_Wp p l e R s m args below meth c Q D dA B0 ca y h0 pc' ls' st' h') : am_Wp p l e R s m args below meth c Q D dA B0 ca y h0 pc ls st h := by
  simp only [am_st] at hs
  split at hs
  · rename_i x hq
    cases hs
    intro H locs rls hO hL
    exact lv_lload C.1 C.2.1 hd (hL.2.2.2 i _ hq (am_ph_l x)) (k H locs rls hO hL)
  · cases hs
theorem am_k_lload_n {i : Fin 4} (C : am_Cx p s m args meth c D dA B0 ca y) (hd : decode (am_by y) pc = .ok (.lload_n i, 1)) (hce : am_chE y (am_in y).1 pc (.lload_n i, n, t, a, b, w) = true) (hs : am_st (.lload_n i, n, t, a, b, w) pc ls st h = some (pc', ls', st', h')) (k : am_Wp p l e R s m args below meth c Q D dA B0 ca y h0 pc' ls' st' h') : am_Wp p l e R s m args below meth c Q D dA B0 ca y h0 pc ls st h := by
  simp only [am_st] at hs
  split at hs
  · rename_i x hq
    cases hs
    intro H locs rls hO hL
    exact lv_lload_n C.1 C.2.1 hd rfl (hL.2.2.2 i.val _ hq (am_ph_l x)) (k H locs rls hO hL)
  · cases hs
theorem am_k_aload {i : Nat} (C : am_Cx p s m args meth c D dA B0 ca y) (hd : decode (am_by y) pc = .ok (.aload i, 2)) (hce : am_chE y (am_in y).1 pc (.aload i, n, t, a, b, w) = true) (hs : am_st (.aload i, n, t, a, b, w) pc ls st h = some (pc', ls', st', h')) (k : am_Wp p l e R s m args below meth c Q D dA B0 ca y h0 pc' ls' st' h') : am_Wp p l e R s m args below meth c Q D dA B0 ca y h0 pc ls st h := by
  simp only [am_st] at hs
  split at hs
  · rename_i x hq
    cases hs
    intro H locs rls hO hL
    exact lv_aload C.1 C.2.1 hd (hL.2.2.2 i _ hq (am_ph_r x)) (k H locs rls hO hL)
  · rename_i  hq
    cases hs
    intro H locs rls hO hL
    exact lv_aloadN C.1 C.2.1 hd (hL.2.2.2 i _ hq (am_ph_n)) (k H locs rls hO hL)
  · cases hs
theorem am_k_aload_n {i : Fin 4} (C : am_Cx p s m args meth c D dA B0 ca y) (hd : decode (am_by y) pc = .ok (.aload_n i, 1)) (hce : am_chE y (am_in y).1 pc (.aload_n i, n, t, a, b, w) = true) (hs : am_st (.aload_n i, n, t, a, b, w) pc ls st h = some (pc', ls', st', h')) (k : am_Wp p l e R s m args below meth c Q D dA B0 ca y h0 pc' ls' st' h') : am_Wp p l e R s m args below meth c Q D dA B0 ca y h0 pc ls st h := by
  simp only [am_st] at hs
  split at hs
  · rename_i x hq
    cases hs
    intro H locs rls hO hL
    exact lv_aload_n C.1 C.2.1 hd rfl (hL.2.2.2 i.val _ hq (am_ph_r x)) (k H locs rls hO hL)
  · rename_i  hq
    cases hs
    intro H locs rls hO hL
    exact lv_aload_nN C.1 C.2.1 hd rfl (hL.2.2.2 i.val _ hq (am_ph_n)) (k H locs rls hO hL)
  · cases hs
theorem am_k_istore {i : Nat} (C : am_Cx p s m args meth c D dA B0 ca y) (hd : decode (am_by y) pc = .ok (.istore i, 2)) (hce : am_chE y (am_in y).1 pc (.istore i, n, t, a, b, w) = true) (hs : am_st (.istore i, n, t, a, b, w) pc ls st h = some (pc', ls', st', h')) (k : am_Wp p l e R s m args below meth c Q D dA B0 ca y h0 pc' ls' st' h') : am_Wp p l e R s m args below meth c Q D dA B0 ca y h0 pc ls st h := by
  simp only [am_st] at hs
  split at hs
  · obtain ⟨h1, hs⟩ := am_cond hs
    cases hs
    intro H locs rls hO hL
    exact lv_istore C.1 C.2.1 hd hL.has (hL.1 ▸ am_blt h1) rfl (fun rls' hl' => k H locs rls' hO (hL.set1 hl'))
  · cases hs
theorem am_k_istore_n {i : Fin 4} (C : am_Cx p s m args meth c D dA B0 ca y) (hd : decode (am_by y) pc = .ok (.istore_n i, 1)) (hce : am_chE y (am_in y).1 pc (.istore_n i, n, t, a, b, w) = true) (hs : am_st (.istore_n i, n, t, a, b, w) pc ls st h = some (pc', ls', st', h')) (k : am_Wp p l e R s m args below meth c Q D dA B0 ca y h0 pc' ls' st' h') : am_Wp p l e R s m args below meth c Q D dA B0 ca y h0 pc ls st h := by
  simp only [am_st] at hs
  split at hs
  · obtain ⟨h1, hs⟩ := am_cond hs
    cases hs
    intro H locs rls hO hL
    exact lv_istore_n C.1 C.2.1 hd rfl hL.has (hL.1 ▸ am_blt h1) rfl (fun rls' hl' => k H locs rls' hO (hL.set1 hl'))
  · cases hs
theorem am_k_lstore {i : Nat} (C : am_Cx p s m args meth c D dA B0 ca y) (hd : decode (am_by y) pc = .ok (.lstore i, 2)) (hce : am_chE y (am_in y).1 pc (.lstore i, n, t, a, b, w) = true) (hs : am_st (.lstore i, n, t, a, b, w) pc ls st h = some (pc', ls', st', h')) (k : am_Wp p l e R s m args below meth c Q D dA B0 ca y h0 pc' ls' st' h') : am_Wp p l e R s m args below meth c Q D dA B0 ca y h0 pc ls st h := by
  simp only [am_st] at hs
  split at hs
  · obtain ⟨h1, hs⟩ := am_cond hs
    cases hs
    intro H locs rls hO hL
    exact lv_lstore C.1 C.2.1 hd hL.has (hL.1 ▸ am_blt h1) rfl (fun rls' hl' => k H locs rls' hO (hL.set2 hl'))
  · cases hs
theorem am_k_lstore_n {i : Fin 4} (C : am_Cx p s m args meth c D dA B0 ca y) (hd : decode (am_by y) pc = .ok (.lstore_n i, 1)) (hce : am_chE y (am_in y).1 pc (.lstore_n i, n, t, a, b, w) = true) (hs : am_st (.lstore_n i, n, t, a, b, w) pc ls st h = some (pc', ls', st', h')) (k : am_Wp p l e R s m args below meth c Q D dA B0 ca y h0 pc' ls' st' h') : am_Wp p l e R s m args below meth c Q D dA B0 ca y h0 pc ls st h := by
  simp only [am_st] at hs
  split at hs
  · obtain ⟨h1, hs⟩ := am_cond hs
    cases hs
    intro H locs rls hO hL
    exact lv_lstore_n C.1 C.2.1 hd rfl hL.has (hL.1 ▸ am_blt h1) rfl (fun rls' hl' => k H locs rls' hO (hL.set2 hl'))
  · cases hs
theorem am_k_astore {i : Nat} (C : am_Cx p s m args meth c D dA B0 ca y) (hd : decode (am_by y) pc = .ok (.astore i, 2)) (hce : am_chE y (am_in y).1 pc (.astore i, n, t, a, b, w) = true) (hs : am_st (.astore i, n, t, a, b, w) pc ls st h = some (pc', ls', st', h')) (k : am_Wp p l e R s m args below meth c Q D dA B0 ca y h0 pc' ls' st' h') : am_Wp p l e R s m args below meth c Q D dA B0 ca y h0 pc ls st h := by
  simp only [am_st] at hs
  split at hs
  · obtain ⟨h1, hs⟩ := am_cond hs
    cases hs
    intro H locs rls hO hL
    exact lv_astore C.1 C.2.1 hd hL.has (hL.1 ▸ am_blt h1) rfl (fun rls' hl' => k H locs rls' hO (hL.set1 hl'))
  · obtain ⟨h1, hs⟩ := am_cond hs
    cases hs
    intro H locs rls hO hL
    exact lv_astoreN C.1 C.2.1 hd hL.has (hL.1 ▸ am_blt h1) rfl (fun rls' hl' => k H locs rls' hO (hL.set1 hl'))
  · cases hs
theorem am_k_astore_n {i : Fin 4} (C : am_Cx p s m args meth c D dA B0 ca y) (hd : decode (am_by y) pc = .ok (.astore_n i, 1)) (hce : am_chE y (am_in y).1 pc (.astore_n i, n, t, a, b, w) = true) (hs : am_st (.astore_n i, n, t, a, b, w) pc ls st h = some (pc', ls', st', h')) (k : am_Wp p l e R s m args below meth c Q D dA B0 ca y h0 pc' ls' st' h') : am_Wp p l e R s m args below meth c Q D dA B0 ca y h0 pc ls st h := by
  simp only [am_st] at hs
  split at hs
  · obtain ⟨h1, hs⟩ := am_cond hs
    cases hs
    intro H locs rls hO hL
    exact lv_astore_n C.1 C.2.1 hd rfl hL.has (hL.1 ▸ am_blt h1) rfl (fun rls' hl' => k H locs rls' hO (hL.set1 hl'))
  · obtain ⟨h1, hs⟩ := am_cond hs
    cases hs
    intro H locs rls hO hL
    exact lv_astore_nN C.1 C.2.1 hd rfl hL.has (hL.1 ▸ am_blt h1) rfl (fun rls' hl' => k H locs rls' hO (hL.set1 hl'))
  · cases hs
theorem am_k_iinc {i : Nat} {d : Int} (C : am_Cx p s m args meth c D dA B0 ca y) (hd : decode (am_by y) pc = .ok (.iinc i d, 3)) (hce : am_chE y (am_in y).1 pc (.iinc i d, n, t, a, b, w) = true) (hs : am_st (.iinc i d, n, t, a, b, w) pc ls st h = some (pc', ls', st', h')) (k : am_Wp p l e R s m args below meth c Q D dA B0 ca y h0 pc' ls' st' h') : am_Wp p l e R s m args below meth c Q D dA B0 ca y h0 pc ls st h := by
  simp only [am_st] at hs
  split at hs
  · rename_i x hq
    cases hs
    intro H locs rls hO hL
    obtain ⟨k0, hk0⟩ := List.getElem?_of_mem (am_pr_mem (ad := am_ad B0 ca) hq (am_ph_i x))
    exact lv_iinc (k := k0) (x := x) C.1 C.2.1 hd hL.has hk0 rfl (hL.1 ▸ (List.getElem?_eq_some_iff.mp hq).1) rfl (fun rls' hl' => k H locs rls' hO (hL.set1 hl'))
  · cases hs
theorem am_k_iadd (C : am_Cx p s m args meth c D dA B0 ca y) (hd : decode (am_by y) pc = .ok (.iadd, 1)) (hce : am_chE y (am_in y).1 pc (.iadd, n, t, a, b, w) = true) (hs : am_st (.iadd, n, t, a, b, w) pc ls st h = some (pc', ls', st', h')) (k : am_Wp p l e R s m args below meth c Q D dA B0 ca y h0 pc' ls' st' h') : am_Wp p l e R s m args below meth c Q D dA B0 ca y h0 pc ls st h := by
  simp only [am_st] at hs
  split at hs
  · cases hs
    intro H locs rls hO hL
    exact lv_iadd C.1 C.2.1 hd (k H locs rls hO hL)
  · cases hs
theorem am_k_isub (C : am_Cx p s m args meth c D dA B0 ca y) (hd : decode (am_by y) pc = .ok (.isub, 1)) (hce : am_chE y (am_in y).1 pc (.isub, n, t, a, b, w) = true) (hs : am_st (.isub, n, t, a, b, w) pc ls st h = some (pc', ls', st', h')) (k : am_Wp p l e R s m args below meth c Q D dA B0 ca y h0 pc' ls' st' h') : am_Wp p l e R s m args below meth c Q D dA B0 ca y h0 pc ls st h := by
  simp only [am_st] at hs
  split at hs
  · cases hs
    intro H locs rls hO hL
    exact lv_isub C.1 C.2.1 hd (k H locs rls hO hL)
  · cases hs
theorem am_k_imul (C : am_Cx p s m args meth c D dA B0 ca y) (hd : decode (am_by y) pc = .ok (.imul, 1)) (hce : am_chE y (am_in y).1 pc (.imul, n, t, a, b, w) = true) (hs : am_st (.imul, n, t, a, b, w) pc ls st h = some (pc', ls', st', h')) (k : am_Wp p l e R s m args below meth c Q D dA B0 ca y h0 pc' ls' st' h') : am_Wp p l e R s m args below meth c Q D dA B0 ca y h0 pc ls st h := by
  simp only [am_st] at hs
  split at hs
  · cases hs
    intro H locs rls hO hL
    exact lv_imul C.1 C.2.1 hd (k H locs rls hO hL)
  · cases hs
theorem am_k_iand (C : am_Cx p s m args meth c D dA B0 ca y) (hd : decode (am_by y) pc = .ok (.iand, 1)) (hce : am_chE y (am_in y).1 pc (.iand, n, t, a, b, w) = true) (hs : am_st (.iand, n, t, a, b, w) pc ls st h = some (pc', ls', st', h')) (k : am_Wp p l e R s m args below meth c Q D dA B0 ca y h0 pc' ls' st' h') : am_Wp p l e R s m args below meth c Q D dA B0 ca y h0 pc ls st h := by
  simp only [am_st] at hs
  split at hs
  · cases hs
    intro H locs rls hO hL
    exact lv_iand C.1 C.2.1 hd (k H locs rls hO hL)
  · cases hs
theorem am_k_ior (C : am_Cx p s m args meth c D dA B0 ca y) (hd : decode (am_by y) pc = .ok (.ior, 1)) (hce : am_chE y (am_in y).1 pc (.ior, n, t, a, b, w) = true) (hs : am_st (.ior, n, t, a, b, w) pc ls st h = some (pc', ls', st', h')) (k : am_Wp p l e R s m args below meth c Q D dA B0 ca y h0 pc' ls' st' h') : am_Wp p l e R s m args below meth c Q D dA B0 ca y h0 pc ls st h := by
  simp only [am_st] at hs
  split at hs
  · cases hs
    intro H locs rls hO hL
    exact lv_ior C.1 C.2.1 hd (k H locs rls hO hL)
  · cases hs
theorem am_k_ixor (C : am_Cx p s m args meth c D dA B0 ca y) (hd : decode (am_by y) pc = .ok (.ixor, 1)) (hce : am_chE y (am_in y).1 pc (.ixor, n, t, a, b, w) = true) (hs : am_st (.ixor, n, t, a, b, w) pc ls st h = some (pc', ls', st', h')) (k : am_Wp p l e R s m args below meth c Q D dA B0 ca y h0 pc' ls' st' h') : am_Wp p l e R s m args below meth c Q D dA B0 ca y h0 pc ls st h := by
  simp only [am_st] at hs
  split at hs
  · cases hs
    intro H locs rls hO hL
    exact lv_ixor C.1 C.2.1 hd (k H locs rls hO hL)
  · cases hs
theorem am_k_ineg (C : am_Cx p s m args meth c D dA B0 ca y) (hd : decode (am_by y) pc = .ok (.ineg, 1)) (hce : am_chE y (am_in y).1 pc (.ineg, n, t, a, b, w) = true) (hs : am_st (.ineg, n, t, a, b, w) pc ls st h = some (pc', ls', st', h')) (k : am_Wp p l e R s m args below meth c Q D dA B0 ca y h0 pc' ls' st' h') : am_Wp p l e R s m args below meth c Q D dA B0 ca y h0 pc ls st h := by
  simp only [am_st] at hs
  split at hs
  · cases hs
    intro H locs rls hO hL
    exact lv_ineg C.1 C.2.1 hd (k H locs rls hO hL)
  · cases hs
theorem am_k_ishl (C : am_Cx p s m args meth c D dA B0 ca y) (hd : decode (am_by y) pc = .ok (.ishl, 1)) (hce : am_chE y (am_in y).1 pc (.ishl, n, t, a, b, w) = true) (hs : am_st (.ishl, n, t, a, b, w) pc ls st h = some (pc', ls', st', h')) (k : am_Wp p l e R s m args below meth c Q D dA B0 ca y h0 pc' ls' st' h') : am_Wp p l e R s m args below meth c Q D dA B0 ca y h0 pc ls st h := by
  simp only [am_st] at hs
  split at hs
  · cases hs
    intro H locs rls hO hL
    exact lv_ishl C.1 C.2.1 hd (k H locs rls hO hL)
  · cases hs
theorem am_k_ishr (C : am_Cx p s m args meth c D dA B0 ca y) (hd : decode (am_by y) pc = .ok (.ishr, 1)) (hce : am_chE y (am_in y).1 pc (.ishr, n, t, a, b, w) = true) (hs : am_st (.ishr, n, t, a, b, w) pc ls st h = some (pc', ls', st', h')) (k : am_Wp p l e R s m args below meth c Q D dA B0 ca y h0 pc' ls' st' h') : am_Wp p l e R s m args below meth c Q D dA B0 ca y h0 pc ls st h := by
  simp only [am_st] at hs
  split at hs
  · cases hs
    intro H locs rls hO hL
    exact lv_ishr C.1 C.2.1 hd (k H locs rls hO hL)
  · cases hs
theorem am_k_ladd (C : am_Cx p s m args meth c D dA B0 ca y) (hd : decode (am_by y) pc = .ok (.ladd, 1)) (hce : am_chE y (am_in y).1 pc (.ladd, n, t, a, b, w) = true) (hs : am_st (.ladd, n, t, a, b, w) pc ls st h = some (pc', ls', st', h')) (k : am_Wp p l e R s m args below meth c Q D dA B0 ca y h0 pc' ls' st' h') : am_Wp p l e R s m args below meth c Q D dA B0 ca y h0 pc ls st h := by
  simp only [am_st] at hs
  split at hs
  · cases hs
    intro H locs rls hO hL
    exact lv_ladd C.1 C.2.1 hd (k H locs rls hO hL)
  · cases hs
theorem am_k_lsub (C : am_Cx p s m args meth c D dA B0 ca y) (hd : decode (am_by y) pc = .ok (.lsub, 1)) (hce : am_chE y (am_in y).1 pc (.lsub, n, t, a, b, w) = true) (hs : am_st (.lsub, n, t, a, b, w) pc ls st h = some (pc', ls', st', h')) (k : am_Wp p l e R s m args below meth c Q D dA B0 ca y h0 pc' ls' st' h') : am_Wp p l e R s m args below meth c Q D dA B0 ca y h0 pc ls st h := by
  simp only [am_st] at hs
  split at hs
  · cases hs
    intro H locs rls hO hL
    exact lv_lsub C.1 C.2.1 hd (k H locs rls hO hL)
  · cases hs
theorem am_k_lmul (C : am_Cx p s m args meth c D dA B0 ca y) (hd : decode (am_by y) pc = .ok (.lmul, 1)) (hce : am_chE y (am_in y).1 pc (.lmul, n, t, a, b, w) = true) (hs : am_st (.lmul, n, t, a, b, w) pc ls st h = some (pc', ls', st', h')) (k : am_Wp p l e R s m args below meth c Q D dA B0 ca y h0 pc' ls' st' h') : am_Wp p l e R s m args below meth c Q D dA B0 ca y h0 pc ls st h := by
  simp only [am_st] at hs
  split at hs
  · cases hs
    intro H locs rls hO hL
    exact lv_lmul C.1 C.2.1 hd (k H locs rls hO hL)
  · cases hs
theorem am_k_lor (C : am_Cx p s m args meth c D dA B0 ca y) (hd : decode (am_by y) pc = .ok (.lor, 1)) (hce : am_chE y (am_in y).1 pc (.lor, n, t, a, b, w) = true) (hs : am_st (.lor, n, t, a, b, w) pc ls st h = some (pc', ls', st', h')) (k : am_Wp p l e R s m args below meth c Q D dA B0 ca y h0 pc' ls' st' h') : am_Wp p l e R s m args below meth c Q D dA B0 ca y h0 pc ls st h := by
  simp only [am_st] at hs
  split at hs
  · cases hs
    intro H locs rls hO hL
    exact lv_lor C.1 C.2.1 hd (k H locs rls hO hL)
  · cases hs
theorem am_k_land (C : am_Cx p s m args meth c D dA B0 ca y) (hd : decode (am_by y) pc = .ok (.land, 1)) (hce : am_chE y (am_in y).1 pc (.land, n, t, a, b, w) = true) (hs : am_st (.land, n, t, a, b, w) pc ls st h = some (pc', ls', st', h')) (k : am_Wp p l e R s m args below meth c Q D dA B0 ca y h0 pc' ls' st' h') : am_Wp p l e R s m args below meth c Q D dA B0 ca y h0 pc ls st h := by
  simp only [am_st] at hs
  split at hs
  · cases hs
    intro H locs rls hO hL
    exact lv_land C.1 C.2.1 hd (k H locs rls hO hL)
  · cases hs
theorem am_k_iushr (C : am_Cx p s m args meth c D dA B0 ca y) (hd : decode (am_by y) pc = .ok (.iushr, 1)) (hce : am_chE y (am_in y).1 pc (.iushr, n, t, a, b, w) = true) (hs : am_st (.iushr, n, t, a, b, w) pc ls st h = some (pc', ls', st', h')) (k : am_Wp p l e R s m args below meth c Q D dA B0 ca y h0 pc' ls' st' h') : am_Wp p l e R s m args below meth c Q D dA B0 ca y h0 pc ls st h := by
  simp only [am_st] at hs
  split at hs
  · cases hs
    intro H locs rls hO hL
    exact lv_iushr C.1 C.2.1 hd rfl (k H locs rls hO hL)
  · cases hs
theorem am_k_lshl (C : am_Cx p s m args meth c D dA B0 ca y) (hd : decode (am_by y) pc = .ok (.lshl, 1)) (hce : am_chE y (am_in y).1 pc (.lshl, n, t, a, b, w) = true) (hs : am_st (.lshl, n, t, a, b, w) pc ls st h = some (pc', ls', st', h')) (k : am_Wp p l e R s m args below meth c Q D dA B0 ca y h0 pc' ls' st' h') : am_Wp p l e R s m args below meth c Q D dA B0 ca y h0 pc ls st h := by
  simp only [am_st] at hs
  split at hs
  · cases hs
    intro H locs rls hO hL
    exact lv_lshl C.1 C.2.1 hd rfl (k H locs rls hO hL)
  · cases hs
theorem am_k_i2l (C : am_Cx p s m args meth c D dA B0 ca y) (hd : decode (am_by y) pc = .ok (.i2l, 1)) (hce : am_chE y (am_in y).1 pc (.i2l, n, t, a, b, w) = true) (hs : am_st (.i2l, n, t, a, b, w) pc ls st h = some (pc', ls', st', h')) (k : am_Wp p l e R s m args below meth c Q D dA B0 ca y h0 pc' ls' st' h') : am_Wp p l e R s m args below meth c Q D dA B0 ca y h0 pc ls st h := by
  simp only [am_st] at hs
  split at hs
  · cases hs
    intro H locs rls hO hL
    exact lv_i2l C.1 C.2.1 hd rfl (k H locs rls hO hL)
  · cases hs
theorem am_k_l2i (C : am_Cx p s m args meth c D dA B0 ca y) (hd : decode (am_by y) pc = .ok (.l2i, 1)) (hce : am_chE y (am_in y).1 pc (.l2i, n, t, a, b, w) = true) (hs : am_st (.l2i, n, t, a, b, w) pc ls st h = some (pc', ls', st', h')) (k : am_Wp p l e R s m args below meth c Q D dA B0 ca y h0 pc' ls' st' h') : am_Wp p l e R s m args below meth c Q D dA B0 ca y h0 pc ls st h := by
  simp only [am_st] at hs
  split at hs
  · cases hs
    intro H locs rls hO hL
    exact lv_l2i C.1 C.2.1 hd rfl (k H locs rls hO hL)
  · cases hs
theorem am_k_i2b (C : am_Cx p s m args meth c D dA B0 ca y) (hd : decode (am_by y) pc = .ok (.i2b, 1)) (hce : am_chE y (am_in y).1 pc (.i2b, n, t, a, b, w) = true) (hs : am_st (.i2b, n, t, a, b, w) pc ls st h = some (pc', ls', st', h')) (k : am_Wp p l e R s m args below meth c Q D dA B0 ca y h0 pc' ls' st' h') : am_Wp p l e R s m args below meth c Q D dA B0 ca y h0 pc ls st h := by
  simp only [am_st] at hs
  split at hs
  · cases hs
    intro H locs rls hO hL
    exact lv_i2b C.1 C.2.1 hd rfl (k H locs rls hO hL)
  · cases hs
theorem am_k_i2c (C : am_Cx p s m args meth c D dA B0 ca y) (hd : decode (am_by y) pc = .ok (.i2c, 1)) (hce : am_chE y (am_in y).1 pc (.i2c, n, t, a, b, w) = true) (hs : am_st (.i2c, n, t, a, b, w) pc ls st h = some (pc', ls', st', h')) (k : am_Wp p l e R s m args below meth c Q D dA B0 ca y h0 pc' ls' st' h') : am_Wp p l e R s m args below meth c Q D dA B0 ca y h0 pc ls st h := by
  simp only [am_st] at hs
  split at hs
  · cases hs
    intro H locs rls hO hL
    exact lv_i2c C.1 C.2.1 hd rfl (k H locs rls hO hL)
  · cases hs
theorem am_k_lcmp (C : am_Cx p s m args meth c D dA B0 ca y) (hd : decode (am_by y) pc = .ok (.lcmp, 1)) (hce : am_chE y (am_in y).1 pc (.lcmp, n, t, a, b, w) = true) (hs : am_st (.lcmp, n, t, a, b, w) pc ls st h = some (pc', ls', st', h')) (k : am_Wp p l e R s m args below meth c Q D dA B0 ca y h0 pc' ls' st' h') : am_Wp p l e R s m args below meth c Q D dA B0 ca y h0 pc ls st h := by
  simp only [am_st] at hs
  split at hs
  · cases hs
    intro H locs rls hO hL
    exact W.lcmp C.1 C.2.1 hd (k H locs rls hO hL)
  · cases hs
theorem am_k_idiv (C : am_Cx p s m args meth c D dA B0 ca y) (hd : decode (am_by y) pc = .ok (.idiv, 1)) (hce : am_chE y (am_in y).1 pc (.idiv, n, t, a, b, w) = true) (hs : am_st (.idiv, n, t, a, b, w) pc ls st h = some (pc', ls', st', h')) (k : am_Wp p l e R s m args below meth c Q D dA B0 ca y h0 pc' ls' st' h') : am_Wp p l e R s m args below meth c Q D dA B0 ca y h0 pc ls st h := by
  simp only [am_st] at hs
  split at hs
  · obtain ⟨h1, hs⟩ := am_ifn hs
    cases hs
    intro H locs rls hO hL
    exact lv_idiv C.1 C.2.1 hd h1 (k H locs rls hO hL)
  · cases hs
theorem am_k_irem (C : am_Cx p s m args meth c D dA B0 ca y) (hd : decode (am_by y) pc = .ok (.irem, 1)) (hce : am_chE y (am_in y).1 pc (.irem, n, t, a, b, w) = true) (hs : am_st (.irem, n, t, a, b, w) pc ls st h = some (pc', ls', st', h')) (k : am_Wp p l e R s m args below meth c Q D dA B0 ca y h0 pc' ls' st' h') : am_Wp p l e R s m args below meth c Q D dA B0 ca y h0 pc ls st h := by
  simp only [am_st] at hs
  split at hs
  · obtain ⟨h1, hs⟩ := am_ifn hs
    cases hs
    intro H locs rls hO hL
    exact lv_irem C.1 C.2.1 hd h1 (k H locs rls hO hL)
  · cases hs
theorem am_k_ldiv (C : am_Cx p s m args meth c D dA B0 ca y) (hd : decode (am_by y) pc = .ok (.ldiv, 1)) (hce : am_chE y (am_in y).1 pc (.ldiv, n, t, a, b, w) = true) (hs : am_st (.ldiv, n, t, a, b, w) pc ls st h = some (pc', ls', st', h')) (k : am_Wp p l e R s m args below meth c Q D dA B0 ca y h0 pc' ls' st' h') : am_Wp p l e R s m args below meth c Q D dA B0 ca y h0 pc ls st h := by
  simp only [am_st] at hs
  split at hs
  · obtain ⟨h1, hs⟩ := am_ifn hs
    cases hs
    intro H locs rls hO hL
    exact lv_ldiv C.1 C.2.1 hd h1 (k H locs rls hO hL)
  · cases hs
theorem am_k_lrem (C : am_Cx p s m args meth c D dA B0 ca y) (hd : decode (am_by y) pc = .ok (.lrem, 1)) (hce : am_chE y (am_in y).1 pc (.lrem, n, t, a, b, w) = true) (hs : am_st (.lrem, n, t, a, b, w) pc ls st h = some (pc', ls', st', h')) (k : am_Wp p l e R s m args below meth c Q D dA B0 ca y h0 pc' ls' st' h') : am_Wp p l e R s m args below meth c Q D dA B0 ca y h0 pc ls st h := by
  simp only [am_st] at hs
  split at hs
  · obtain ⟨h1, hs⟩ := am_ifn hs
    cases hs
    intro H locs rls hO hL
    exact lv_lrem C.1 C.2.1 hd h1 (k H locs rls hO hL)
  · cases hs
theorem am_k_dup (C : am_Cx p s m args meth c D dA B0 ca y) (hd : decode (am_by y) pc = .ok (.dup, 1)) (hce : am_chE y (am_in y).1 pc (.dup, n, t, a, b, w) = true) (hs : am_st (.dup, n, t, a, b, w) pc ls st h = some (pc', ls', st', h')) (k : am_Wp p l e R s m args below meth c Q D dA B0 ca y h0 pc' ls' st' h') : am_Wp p l e R s m args below meth c Q D dA B0 ca y h0 pc ls st h := by
  simp only [am_st] at hs
  split at hs
  · obtain ⟨h1, hs⟩ := am_cond hs
    cases hs
    intro H locs rls hO hL
    exact lv_dup C.1 C.2.1 hd ((am_ga_cat _ _).trans (am_beq h1)) (k H locs rls hO hL)
  · cases hs
theorem am_k_pop (C : am_Cx p s m args meth c D dA B0 ca y) (hd : decode (am_by y) pc = .ok (.pop, 1)) (hce : am_chE y (am_in y).1 pc (.pop, n, t, a, b, w) = true) (hs : am_st (.pop, n, t, a, b, w) pc ls st h = some (pc', ls', st', h')) (k : am_Wp p l e R s m args below meth c Q D dA B0 ca y h0 pc' ls' st' h') : am_Wp p l e R s m args below meth c Q D dA B0 ca y h0 pc ls st h := by
  simp only [am_st] at hs
  split at hs
  · obtain ⟨h1, hs⟩ := am_cond hs
    cases hs
    intro H locs rls hO hL
    exact lv_pop C.1 C.2.1 hd ((am_ga_cat _ _).trans (am_beq h1)) (k H locs rls hO hL)
  · cases hs
theorem am_k_dup2 (C : am_Cx p s m args meth c D dA B0 ca y) (hd : decode (am_by y) pc = .ok (.dup2, 1)) (hce : am_chE y (am_in y).1 pc (.dup2, n, t, a, b, w) = true) (hs : am_st (.dup2, n, t, a, b, w) pc ls st h = some (pc', ls', st', h')) (k : am_Wp p l e R s m args below meth c Q D dA B0 ca y h0 pc' ls' st' h') : am_Wp p l e R s m args below meth c Q D dA B0 ca y h0 pc ls st h := by
  simp only [am_st] at hs
  split at hs
  · obtain ⟨h1, hs⟩ := am_cond hs
    rw [Bool.and_eq_true] at h1
    cases hs
    intro H locs rls hO hL
    exact lv_dup2_11 C.1 C.2.1 hd ((am_ga_cat _ _).trans (am_beq h1.1)) ((am_ga_cat _ _).trans (am_beq h1.2)) (k H locs rls hO hL)
  · cases hs
theorem am_k_goto {off : Int} (C : am_Cx p s m args meth c D dA B0 ca y) (hd : decode (am_by y) pc = .ok (.goto off, 3)) (hce : am_chE y (am_in y).1 pc (.goto off, n, t, a, b, w) = true) (hs : am_st (.goto off, n, t, a, b, w) pc ls st h = some (pc', ls', st', h')) (k : am_Wp p l e R s m args below meth c Q D dA B0 ca y h0 pc' ls' st' h') : am_Wp p l e R s m args below meth c Q D dA B0 ca y h0 pc ls st h := by
  simp only [am_st] at hs
  cases hs
  intro H locs rls hO hL
  exact lv_goto C.1 C.2.1 hd (of_decide_eq_true hce) (k H locs rls hO hL)
theorem am_k_if_eq {off : Int} (C : am_Cx p s m args meth c D dA B0 ca y) (hd : decode (am_by y) pc = .ok (.ifCond .eq off, 3)) (hce : am_chE y (am_in y).1 pc (.ifCond .eq off, n, t, a, b, w) = true) (hs : am_st (.ifCond .eq off, n, t, a, b, w) pc ls st h = some (pc', ls', st', h')) (k : am_Wp p l e R s m args below meth c Q D dA B0 ca y h0 pc' ls' st' h') : am_Wp p l e R s m args below meth c Q D dA B0 ca y h0 pc ls st h := by
  simp only [am_st] at hs
  split at hs
  · rename_i x r
    by_cases hc : x = 0
    · rw [if_pos hc] at hs
      cases hs
      intro H locs rls hO hL
      exact lv_if_eq C.1 C.2.1 hd (of_decide_eq_true hce) (fun _ => k H locs rls hO hL) (fun q => absurd hc q)
    · rw [if_neg hc] at hs
      cases hs
      intro H locs rls hO hL
      exact lv_if_eq C.1 C.2.1 hd (of_decide_eq_true hce) (fun q => absurd q hc) (fun _ => k H locs rls hO hL)
  · cases hs
theorem am_k_if_lt {off : Int} (C : am_Cx p s m args meth c D dA B0 ca y) (hd : decode (am_by y) pc = .ok (.ifCond .lt off, 3)) (hce : am_chE y (am_in y).1 pc (.ifCond .lt off, n, t, a, b, w) = true) (hs : am_st (.ifCond .lt off, n, t, a, b, w) pc ls st h = some (pc', ls', st', h')) (k : am_Wp p l e R s m args below meth c Q D dA B0 ca y h0 pc' ls' st' h') : am_Wp p l e R s m args below meth c Q D dA B0 ca y h0 pc ls st h := by
  simp only [am_st] at hs
  split at hs
  · rename_i x r
    by_cases hc : x < 0
    · rw [if_pos hc] at hs
      cases hs
      intro H locs rls hO hL
      exact lv_if_lt C.1 C.2.1 hd (of_decide_eq_true hce) (fun _ => k H locs rls hO hL) (fun q => absurd hc q)
    · rw [if_neg hc] at hs
      cases hs
      intro H locs rls hO hL
      exact lv_if_lt C.1 C.2.1 hd (of_decide_eq_true hce) (fun q => absurd q hc) (fun _ => k H locs rls hO hL)
  · cases hs
theorem am_k_if_ge {off : Int} (C : am_Cx p s m args meth c D dA B0 ca y) (hd : decode (am_by y) pc = .ok (.ifCond .ge off, 3)) (hce : am_chE y (am_in y).1 pc (.ifCond .ge off, n, t, a, b, w) = true) (hs : am_st (.ifCond .ge off, n, t, a, b, w) pc ls st h = some (pc', ls', st', h')) (k : am_Wp p l e R s m args below meth c Q D dA B0 ca y h0 pc' ls' st' h') : am_Wp p l e R s m args below meth c Q D dA B0 ca y h0 pc ls st h := by
  simp only [am_st] at hs
  split at hs
  · rename_i x r
    by_cases hc : 0 ≤ x
    · rw [if_pos hc] at hs
      cases hs
      intro H locs rls hO hL
      exact lv_if_ge C.1 C.2.1 hd (of_decide_eq_true hce) (fun _ => k H locs rls hO hL) (fun q => absurd hc q)
    · rw [if_neg hc] at hs
      cases hs
      intro H locs rls hO hL
      exact lv_if_ge C.1 C.2.1 hd (of_decide_eq_true hce) (fun q => absurd q hc) (fun _ => k H locs rls hO hL)
  · cases hs
theorem am_k_if_gt {off : Int} (C : am_Cx p s m args meth c D dA B0 ca y) (hd : decode (am_by y) pc = .ok (.ifCond .gt off, 3)) (hce : am_chE y (am_in y).1 pc (.ifCond .gt off, n, t, a, b, w) = true) (hs : am_st (.ifCond .gt off, n, t, a, b, w) pc ls st h = some (pc', ls', st', h')) (k : am_Wp p l e R s m args below meth c Q D dA B0 ca y h0 pc' ls' st' h') : am_Wp p l e R s m args below meth c Q D dA B0 ca y h0 pc ls st h := by
  simp only [am_st] at hs
  split at hs
  · rename_i x r
    by_cases hc : 0 < x
    · rw [if_pos hc] at hs
      cases hs
      intro H locs rls hO hL
      exact lv_if_gt C.1 C.2.1 hd (of_decide_eq_true hce) (fun _ => k H locs rls hO hL) (fun q => absurd hc q)
    · rw [if_neg hc] at hs
      cases hs
      intro H locs rls hO hL
      exact lv_if_gt C.1 C.2.1 hd (of_decide_eq_true hce) (fun q => absurd q hc) (fun _ => k H locs rls hO hL)
  · cases hs
theorem am_k_if_le {off : Int} (C : am_Cx p s m args meth c D dA B0 ca y) (hd : decode (am_by y) pc = .ok (.ifCond .le off, 3)) (hce : am_chE y (am_in y).1 pc (.ifCond .le off, n, t, a, b, w) = true) (hs : am_st (.ifCond .le off, n, t, a, b, w) pc ls st h = some (pc', ls', st', h')) (k : am_Wp p l e R s m args below meth c Q D dA B0 ca y h0 pc' ls' st' h') : am_Wp p l e R s m args below meth c Q D dA B0 ca y h0 pc ls st h := by
  simp only [am_st] at hs
  split at hs
  · rename_i x r
    by_cases hc : x ≤ 0
    · rw [if_pos hc] at hs
      cases hs
      intro H locs rls hO hL
      exact lv_if_le C.1 C.2.1 hd (of_decide_eq_true hce) (fun _ => k H locs rls hO hL) (fun q => absurd hc q)
    · rw [if_neg hc] at hs
      cases hs
      intro H locs rls hO hL
      exact lv_if_le C.1 C.2.1 hd (of_decide_eq_true hce) (fun q => absurd q hc) (fun _ => k H locs rls hO hL)
  · cases hs
theorem am_k_if_ne {off : Int} (C : am_Cx p s m args meth c D dA B0 ca y) (hd : decode (am_by y) pc = .ok (.ifCond .ne off, 3)) (hce : am_chE y (am_in y).1 pc (.ifCond .ne off, n, t, a, b, w) = true) (hs : am_st (.ifCond .ne off, n, t, a, b, w) pc ls st h = some (pc', ls', st', h')) (k : am_Wp p l e R s m args below meth c Q D dA B0 ca y h0 pc' ls' st' h') : am_Wp p l e R s m args below meth c Q D dA B0 ca y h0 pc ls st h := by
  simp only [am_st] at hs
  split at hs
  · rename_i x r
    by_cases hc : x = 0
    · rw [if_pos hc] at hs
      cases hs
      intro H locs rls hO hL
      exact lv_if_ne C.1 C.2.1 hd (of_decide_eq_true hce) (fun q => absurd hc q) (fun _ => k H locs rls hO hL)
    · rw [if_neg hc] at hs
      cases hs
      intro H locs rls hO hL
      exact lv_if_ne C.1 C.2.1 hd (of_decide_eq_true hce) (fun _ => k H locs rls hO hL) (fun q => absurd q hc)
  · cases hs
theorem am_k_icmp_eq {off : Int} (C : am_Cx p s m args meth c D dA B0 ca y) (hd : decode (am_by y) pc = .ok (.if_icmp .eq off, 3)) (hce : am_chE y (am_in y).1 pc (.if_icmp .eq off, n, t, a, b, w) = true) (hs : am_st (.if_icmp .eq off, n, t, a, b, w) pc ls st h = some (pc', ls', st', h')) (k : am_Wp p l e R s m args below meth c Q D dA B0 ca y h0 pc' ls' st' h') : am_Wp p l e R s m args below meth c Q D dA B0 ca y h0 pc ls st h := by
  simp only [am_st] at hs
  split at hs
  · rename_i z x r
    by_cases hc : x = z
    · rw [if_pos hc] at hs
      cases hs
      intro H locs rls hO hL
      exact lv_icmp_eq C.1 C.2.1 hd (of_decide_eq_true hce) (fun _ => k H locs rls hO hL) (fun q => absurd hc q)
    · rw [if_neg hc] at hs
      cases hs
      intro H locs rls hO hL
      exact lv_icmp_eq C.1 C.2.1 hd (of_decide_eq_true hce) (fun q => absurd q hc) (fun _ => k H locs rls hO hL)
  · cases hs
theorem am_k_icmp_lt {off : Int} (C : am_Cx p s m args meth c D dA B0 ca y) (hd : decode (am_by y) pc = .ok (.if_icmp .lt off, 3)) (hce : am_chE y (am_in y).1 pc (.if_icmp .lt off, n, t, a, b, w) = true) (hs : am_st (.if_icmp .lt off, n, t, a, b, w) pc ls st h = some (pc', ls', st', h')) (k : am_Wp p l e R s m args below meth c Q D dA B0 ca y h0 pc' ls' st' h') : am_Wp p l e R s m args below meth c Q D dA B0 ca y h0 pc ls st h := by
  simp only [am_st] at hs
  split at hs
  · rename_i z x r
    by_cases hc : x < z
    · rw [if_pos hc] at hs
      cases hs
      intro H locs rls hO hL
      exact lv_icmp_lt C.1 C.2.1 hd (of_decide_eq_true hce) (fun _ => k H locs rls hO hL) (fun q => absurd hc q)
    · rw [if_neg hc] at hs
      cases hs
      intro H locs rls hO hL
      exact lv_icmp_lt C.1 C.2.1 hd (of_decide_eq_true hce) (fun q => absurd q hc) (fun _ => k H locs rls hO hL)
  · cases hs
theorem am_k_icmp_ge {off : Int} (C : am_Cx p s m args meth c D dA B0 ca y) (hd : decode (am_by y) pc = .ok (.if_icmp .ge off, 3)) (hce : am_chE y (am_in y).1 pc (.if_icmp .ge off, n, t, a, b, w) = true) (hs : am_st (.if_icmp .ge off, n, t, a, b, w) pc ls st h = some (pc', ls', st', h')) (k : am_Wp p l e R s m args below meth c Q D dA B0 ca y h0 pc' ls' st' h') : am_Wp p l e R s m args below meth c Q D dA B0 ca y h0 pc ls st h := by
  simp only [am_st] at hs
  split at hs
  · rename_i z x r
    by_cases hc : z ≤ x
    · rw [if_pos hc] at hs
      cases hs
      intro H locs rls hO hL
      exact lv_icmp_ge C.1 C.2.1 hd (of_decide_eq_true hce) (fun _ => k H locs rls hO hL) (fun q => absurd hc q)
    · rw [if_neg hc] at hs
      cases hs
      intro H locs rls hO hL
      exact lv_icmp_ge C.1 C.2.1 hd (of_decide_eq_true hce) (fun q => absurd q hc) (fun _ => k H locs rls hO hL)
  · cases hs
theorem am_k_icmp_gt {off : Int} (C : am_Cx p s m args meth c D dA B0 ca y) (hd : decode (am_by y) pc = .ok (.if_icmp .gt off, 3)) (hce : am_chE y (am_in y).1 pc (.if_icmp .gt off, n, t, a, b, w) = true) (hs : am_st (.if_icmp .gt off, n, t, a, b, w) pc ls st h = some (pc', ls', st', h')) (k : am_Wp p l e R s m args below meth c Q D dA B0 ca y h0 pc' ls' st' h') : am_Wp p l e R s m args below meth c Q D dA B0 ca y h0 pc ls st h := by
  simp only [am_st] at hs
  split at hs
  · rename_i z x r
    by_cases hc : z < x
    · rw [if_pos hc] at hs
      cases hs
      intro H locs rls hO hL
      exact lv_icmp_gt C.1 C.2.1 hd (of_decide_eq_true hce) (fun _ => k H locs rls hO hL) (fun q => absurd hc q)
    · rw [if_neg hc] at hs
      cases hs
      intro H locs rls hO hL
      exact lv_icmp_gt C.1 C.2.1 hd (of_decide_eq_true hce) (fun q => absurd q hc) (fun _ => k H locs rls hO hL)
  · cases hs
theorem am_k_icmp_le {off : Int} (C : am_Cx p s m args meth c D dA B0 ca y) (hd : decode (am_by y) pc = .ok (.if_icmp .le off, 3)) (hce : am_chE y (am_in y).1 pc (.if_icmp .le off, n, t, a, b, w) = true) (hs : am_st (.if_icmp .le off, n, t, a, b, w) pc ls st h = some (pc', ls', st', h')) (k : am_Wp p l e R s m args below meth c Q D dA B0 ca y h0 pc' ls' st' h') : am_Wp p l e R s m args below meth c Q D dA B0 ca y h0 pc ls st h := by
  simp only [am_st] at hs
  split at hs
  · rename_i z x r
    by_cases hc : x ≤ z
    · rw [if_pos hc] at hs
      cases hs
      intro H locs rls hO hL
      exact lv_icmp_le C.1 C.2.1 hd (of_decide_eq_true hce) (fun _ => k H locs rls hO hL) (fun q => absurd hc q)
    · rw [if_neg hc] at hs
      cases hs
      intro H locs rls hO hL
      exact lv_icmp_le C.1 C.2.1 hd (of_decide_eq_true hce) (fun q => absurd q hc) (fun _ => k H locs rls hO hL)
  · cases hs
theorem am_k_icmp_ne {off : Int} (C : am_Cx p s m args meth c D dA B0 ca y) (hd : decode (am_by y) pc = .ok (.if_icmp .ne off, 3)) (hce : am_chE y (am_in y).1 pc (.if_icmp .ne off, n, t, a, b, w) = true) (hs : am_st (.if_icmp .ne off, n, t, a, b, w) pc ls st h = some (pc', ls', st', h')) (k : am_Wp p l e R s m args below meth c Q D dA B0 ca y h0 pc' ls' st' h') : am_Wp p l e R s m args below meth c Q D dA B0 ca y h0 pc ls st h := by
  simp only [am_st] at hs
  split at hs
  · rename_i z x r
    by_cases hc : x = z
    · rw [if_pos hc] at hs
      cases hs
      intro H locs rls hO hL
      exact lv_icmp_ne C.1 C.2.1 hd (of_decide_eq_true hce) (fun q => absurd hc q) (fun _ => k H locs rls hO hL)
    · rw [if_neg hc] at hs
      cases hs
      intro H locs rls hO hL
      exact lv_icmp_ne C.1 C.2.1 hd (of_decide_eq_true hce) (fun _ => k H locs rls hO hL) (fun q => absurd q hc)
  · cases hs
theorem am_k_ifnull {off : Int} (C : am_Cx p s m args meth c D dA B0 ca y) (hd : decode (am_by y) pc = .ok (.ifnull off, 3)) (hce : am_chE y (am_in y).1 pc (.ifnull off, n, t, a, b, w) = true) (hs : am_st (.ifnull off, n, t, a, b, w) pc ls st h = some (pc', ls', st', h')) (k : am_Wp p l e R s m args below meth c Q D dA B0 ca y h0 pc' ls' st' h') : am_Wp p l e R s m args below meth c Q D dA B0 ca y h0 pc ls st h := by
  simp only [am_st] at hs
  split at hs
  · cases hs
    intro H locs rls hO hL
    exact lv_ifnullN C.1 C.2.1 hd (of_decide_eq_true hce) (k H locs rls hO hL)
  · cases hs
    intro H locs rls hO hL
    exact lv_ifnull C.1 C.2.1 hd (k H locs rls hO hL)
  · cases hs
theorem am_k_ifnonnull {off : Int} (C : am_Cx p s m args meth c D dA B0 ca y) (hd : decode (am_by y) pc = .ok (.ifnonnull off, 3)) (hce : am_chE y (am_in y).1 pc (.ifnonnull off, n, t, a, b, w) = true) (hs : am_st (.ifnonnull off, n, t, a, b, w) pc ls st h = some (pc', ls', st', h')) (k : am_Wp p l e R s m args below meth c Q D dA B0 ca y h0 pc' ls' st' h') : am_Wp p l e R s m args below meth c Q D dA B0 ca y h0 pc ls st h := by
  simp only [am_st] at hs
  split at hs
  · cases hs
    intro H locs rls hO hL
    exact lv_ifnonnullN C.1 C.2.1 hd (k H locs rls hO hL)
  · cases hs
    intro H locs rls hO hL
    exact lv_ifnonnull C.1 C.2.1 hd (of_decide_eq_true hce) (k H locs rls hO hL)
  · cases hs
theorem am_k_tableswitch {d lo hi : Int} {offs : Array Int} {len : Nat} (C : am_Cx p s m args meth c D dA B0 ca y) (hd : decode (am_by y) pc = .ok (.tableswitch d lo hi offs, len)) (hce : am_chE y (am_in y).1 pc (.tableswitch d lo hi offs, n, t, a, b, w) = true) (hs : am_st (.tableswitch d lo hi offs, n, t, a, b, w) pc ls st h = some (pc', ls', st', h')) (k : am_Wp p l e R s m args below meth c Q D dA B0 ca y h0 pc' ls' st' h') : am_Wp p l e R s m args below meth c Q D dA B0 ca y h0 pc ls st h := by
  simp only [am_chE, Bool.and_eq_true] at hce
  simp only [am_st] at hs
  split at hs
  · rename_i x r
    by_cases hc : x.toInt < lo ∨ hi < x.toInt
    · rw [if_pos hc] at hs
      cases hs
      intro H locs rls hO hL
      exact lv_tableOut C.1 C.2.1 hd hc (Int.toNat_of_nonneg (of_decide_eq_true hce.1)).symm (k H locs rls hO hL)
    · rw [if_neg hc] at hs
      split at hs
      · rename_i off ho
        cases hs
        intro H locs rls hO hL
        have hm : off ∈ offs.toList := by
          rw [← Array.getElem?_toList] at ho
          exact List.mem_of_getElem? ho
        exact lv_tableIn C.1 C.2.1 hd (fun q => hc (Or.inl q)) (fun q => hc (Or.inr q)) ho (Int.toNat_of_nonneg (of_decide_eq_true (List.all_eq_true.mp hce.2 off hm))).symm (k H locs rls hO hL)
      · cases hs
  · cases hs
theorem am_k_ldc {idx : Nat} (C : am_Cx p s m args meth c D dA B0 ca y) (hd : decode (am_by y) pc = .ok (.ldc idx, 2)) (hce : am_chE y (am_in y).1 pc (.ldc idx, n, t, a, b, w) = true) (hb0 : Nat.beq b 0 = true) (hs : am_st (.ldc idx, n, t, a, b, w) pc ls st h = some (pc', ls', st', h')) (k : am_Wp p l e R s m args below meth c Q D dA B0 ca y h0 pc' ls' st' h') : am_Wp p l e R s m args below meth c Q D dA B0 ca y h0 pc ls st h := by
  simp only [am_chE] at hce
  simp only [am_st] at hs
  rw [hb0] at hs hce
  simp only [cond_true] at hs hce
  cases hs
  intro H locs rls hO hL
  exact lv_ldc C.1 C.2.1 C.2.2.2.1 (C.2.2.2.2.1 _ (am_ci (of_decide_eq_true hce))) hd (k H locs rls hO hL)
theorem am_k_ldc_w {idx : Nat} (C : am_Cx p s m args meth c D dA B0 ca y) (hd : decode (am_by y) pc = .ok (.ldc_w idx, 3)) (hce : am_chE y (am_in y).1 pc (.ldc_w idx, n, t, a, b, w) = true) (hb0 : Nat.beq b 0 = true) (hs : am_st (.ldc_w idx, n, t, a, b, w) pc ls st h = some (pc', ls', st', h')) (k : am_Wp p l e R s m args below meth c Q D dA B0 ca y h0 pc' ls' st' h') : am_Wp p l e R s m args below meth c Q D dA B0 ca y h0 pc ls st h := by
  simp only [am_chE] at hce
  simp only [am_st] at hs
  rw [hb0] at hs hce
  simp only [cond_true] at hs hce
  cases hs
  intro H locs rls hO hL
  exact lv_ldcw C.1 C.2.1 C.2.2.2.1 (C.2.2.2.2.1 _ (am_ci (of_decide_eq_true hce))) hd (k H locs rls hO hL)
theorem am_k_ldc2_w {idx : Nat} (C : am_Cx p s m args meth c D dA B0 ca y) (hd : decode (am_by y) pc = .ok (.ldc2_w idx, 3)) (hce : am_chE y (am_in y).1 pc (.ldc2_w idx, n, t, a, b, w) = true) (hs : am_st (.ldc2_w idx, n, t, a, b, w) pc ls st h = some (pc', ls', st', h')) (k : am_Wp p l e R s m args below meth c Q D dA B0 ca y h0 pc' ls' st' h') : am_Wp p l e R s m args below meth c Q D dA B0 ca y h0 pc ls st h := by
  simp only [am_chE] at hce
  simp only [am_st] at hs
  cases hs
  intro H locs rls hO hL
  exact lv_ldc2 C.1 C.2.1 C.2.2.2.1 (C.2.2.2.2.1 _ (am_cL (of_decide_eq_true hce))) hd (k H locs rls hO hL)
theorem am_k_getstatic {idx : Nat} (C : am_Cx p s m args meth c D dA B0 ca y) (hd : decode (am_by y) pc = .ok (.getstatic idx, 3)) (hce : am_chE y (am_in y).1 pc (.getstatic idx, n, t, a, b, w) = true) (hs : am_st (.getstatic idx, n, t, a, b, w) pc ls st h = some (pc', ls', st', h')) (k : am_Wp p l e R s m args below meth c Q D dA B0 ca y h0 pc' ls' st' h') : am_Wp p l e R s m args below meth c Q D dA B0 ca y h0 pc ls st h := by
  simp only [am_chE, Bool.and_eq_true] at hce
  obtain ⟨⟨h1, h2⟩, h3⟩ := hce
  have h1 : 1 ≤ a := Nat.le_of_ble_eq_true h1
  have h2 : a ≤ 6 := Nat.le_of_ble_eq_true h2
  simp only [am_st] at hs
  cases hs
  intro H locs rls hO hL
  obtain ⟨cf, kf, fi, f, q, cell, z1, z2, z3, z4, z5, z6, z7, z8⟩ := hO.2.2.1.1 a h1 h2
  have e : am_ad B0 ca a = ca a := am_ad_lo (by unfold am_n0; omega)
  refine W.gets (v := .ref (ca a)) C.1 C.2.1 C.2.2.2.1 (C.2.2.2.2.1 _ (am_flS (of_decide_eq_true h3))) z1 z2 z3 z4 z5 (fun e => by rw [e] at z6; cases z6) z7 rfl hd ?_
  have hk := k H locs rls hO hL
  simp only [List.map_cons, am_ga, e] at hk
  exact hk
theorem am_k_getfield {idx : Nat} (C : am_Cx p s m args meth c D dA B0 ca y) (hd : decode (am_by y) pc = .ok (.getfield idx, 3)) (hce : am_chE y (am_in y).1 pc (.getfield idx, n, t, a, b, w) = true) (hs : am_st (.getfield idx, n, t, a, b, w) pc ls st h = some (pc', ls', st', h')) (k : am_Wp p l e R s m args below meth c Q D dA B0 ca y h0 pc' ls' st' h') : am_Wp p l e R s m args below meth c Q D dA B0 ca y h0 pc ls st h := by
  simp only [am_chE, Bool.and_eq_true] at hce
  obtain ⟨⟨h1, h2⟩, h3⟩ := hce
  have h1 := am_blt h1
  have h2 := am_blt h2
  simp only [am_st] at hs
  split at hs
  · obtain ⟨h4, hs⟩ := am_cond hs
    cases hs
    intro H locs rls hO hL
    exact va_get (D := D) (ci := a) (C := am_cn a) (T := am_TT a) (N := am_N a) C.1 C.2.1 C.2.2.2.2.1 (am_cls h1).1 C.2.2.2.1 C.2.2.2.2.2.1.1 (am_objP hO h4 h1) 0 rfl (am_cl a h1) b h2 (C.2.2.2.2.1 _ (am_fl (of_decide_eq_true h3))) (fun _ z => z) (am_fs_get h2) hd (k H locs rls hO hL)
  · cases hs
theorem am_k_putfield {idx : Nat} (C : am_Cx p s m args meth c D dA B0 ca y) (hd : decode (am_by y) pc = .ok (.putfield idx, 3)) (hce : am_chE y (am_in y).1 pc (.putfield idx, n, t, a, b, w) = true) (hs : am_st (.putfield idx, n, t, a, b, w) pc ls st h = some (pc', ls', st', h')) (k : am_Wp p l e R s m args below meth c Q D dA B0 ca y h0 pc' ls' st' h') : am_Wp p l e R s m args below meth c Q D dA B0 ca y h0 pc ls st h := by
  simp only [am_chE, Bool.and_eq_true] at hce
  obtain ⟨⟨⟨h1, h2⟩, h3⟩, h5⟩ := hce
  have h1 := am_blt h1
  have h2 := am_blt h2
  simp only [am_st] at hs
  split at hs
  · rename_i v x r
    obtain ⟨h4, hs⟩ := am_cond hs
    rw [Bool.and_eq_true] at h4
    obtain ⟨h4, h6⟩ := h4
    cases hs
    intro H locs rls hO hL
    obtain ⟨hx0, cell, q1, q2, q3, q4⟩ := am_obj hO h4 h1
    obtain ⟨hx, hb, hml, hown, hts, hT, hin, hB⟩ := C
    have hap := va_apart (own := am_cn (am_in y).1) hts (am_cls h1).1 (am_ty a) (am_cT a h1).1 (am_cT a h1).2 hT.1 (am_cl a h1)
    obtain ⟨hS, hfc, kC, hkC, hkind⟩ := hT.1.1 a _ (am_cl a h1)
    obtain ⟨cf, kf, fi, f, hi, hsl⟩ := hS b h2
    have hlay := hts _ ((am_cls h1).1 _ (u_in_lay h2))
    have hst := (u_facts hfc hkC (u_lays hts (am_cls h1).1 h2) hi).1
    have hnf : narrow (am_ty a b) (am_ga (am_ad B0 ca) v) = am_ga (am_ad B0 ca) v ∧ fits (am_ty a b) (am_ga (am_ad B0 ca) v) = true := am_fok_spec h6
    have hlink := hts _ (am_fl (of_decide_eq_true h3))
    have fin : ∀ H' : Heap, H'[am_ad B0 ca x]? = some (cell.setSlot f.slot (am_ga (am_ad B0 ca) v)) → H'.size = H.size → (∀ q, q ≠ am_ad B0 ca x → H'[q]? = H[q]?) → W p l e R s m args below meth c H' (locs ++ [⟨am_ad B0 ca x, f.slot⟩]) (h.1 - h0.1) (h.2.1 - h0.2.1) Q (F0 m (pc + 3) rls (st'.map (am_ga (am_ad B0 ca)))) := by
      intro H' e1 e2 e3
      refine k H' _ rls (hO.put hx0 rfl rfl (fun k hk => ?_) e2 e3 ?_) hL
      · funext j
        simp [am_put, am_up, hk]
      · obtain ⟨-, o1, o2⟩ := am_isO_spec h4
        refine Or.inl ⟨o1, (am_cn a, am_TT a, am_N a), ?_, ?_⟩
        · show vwCl[(h.2.2.1 x).2.1]? = _
          rw [o2]
          exact am_cl a h1
        · show t_OB _ (D.1 (h.2.2.1 x).2.1) _ (D.2 (h.2.2.1 x).2.1) H' _
          rw [o2]
          rw [hsl] at e1
          refine t_OB.to (V := updV (fun j => am_ga (am_ad B0 ca) (h.2.2.2 x j)) b (am_ga (am_ad B0 ca) v)) ⟨_, e1, q2, q3, t_set q4 hap h2 _⟩ (fun j _ => ?_)
          by_cases hj : j = b
          · subst hj
            simp [updV, am_put, am_up]
          · simp [updV, am_put, am_up, hj]
    unfold u_lay at hlay
    cases hfin : (am_TT a b).2.2.2 with
    | false =>
      rw [if_neg (by rw [hfin]; decide)] at hlay
      have h7 := u_store hfc hkC hkind hlay hi ((am_cT a h1).1 b h2) hnf.1 hnf.2
      exact W.putK hx hb (f := f) ⟨hown, hlink, ⟨_, _, _, hi⟩, hst⟩ (by rw [q2]; exact h7) q1 q3 (by rw [hsl]; exact k2_hasslot (q4 b h2)) rfl rfl hd fin
    | true =>
      rw [if_pos hfin] at hlay
      rw [hfin] at h5
      simp only [cond_true] at h5
      have h8 : (am_in y).2.2.2 = 2 ∧ (am_TT a b).1 = am_cn (am_in y).1 := am_fin_spec h1 h2 h5
      have hcf : m.cls = cf := by
        obtain ⟨_, _, c', _, _, _, -, -, hf', -, -, -, hown2, -⟩ := Cond.laysFinal_spec hlay
        have e1 : c' = cf := by have := hi.symm.trans hf'; simp at this; exact this.1.symm
        rw [h8.2] at hown2
        rw [← e1]; exact Option.some.inj (hown.symm.trans hown2)
      have h7 := u_fits hfc hkC hkind (Or.inr hlay) hi ((am_cT a h1).1 b h2) hnf.1 hnf.2
      exact W.putFinK hx hb hown hlink hi hst hcf (hin h8.1) (by rw [q2]; exact h7) q1 q3 (by rw [hsl]; exact k2_hasslot (q4 b h2)) rfl rfl hd fin
  · cases hs
end AMK
end
section
/-! arrays and new cells -/
theorem am_rd_spec {h : am_H} {x : Nat} {i : Int32} {ok : Nat → Bool} {v : Value} (hr : am_rd h x i ok = some v) : x < h.1 ∧ ((h.2.2.1 x).1 = 1 ∨ (h.2.2.1 x).1 = 2) ∧ ok (h.2.2.1 x).2.1 = true ∧ vp_in i (h.2.2.1 x).2.2 ∧ v = h.2.2.2 x i.toNatClampNeg := by
  unfold am_rd at hr
  obtain ⟨h1, hr⟩ := am_cond hr
  obtain ⟨h2, hr⟩ := am_ifn hr
  simp only [Bool.and_eq_true, Bool.or_eq_true] at h1
  cases hr
  exact ⟨am_blt h1.1.1, h1.1.2.imp am_beq am_beq, h1.2, h2, rfl⟩
theorem am_wr_spec {h h' : am_H} {x tc : Nat} {i : Int32} {v : Value} (hr : am_wr h x i tc v = some h') : x < h.1 ∧ (h.2.2.1 x).1 = 1 ∧ (h.2.2.1 x).2.1 = tc ∧ vp_in i (h.2.2.1 x).2.2 ∧ h' = am_put h x i.toNatClampNeg v := by
  unfold am_wr at hr
  obtain ⟨h1, hr⟩ := am_cond hr
  obtain ⟨h2, hr⟩ := am_ifn hr
  simp only [Bool.and_eq_true] at h1
  cases hr
  exact ⟨am_blt h1.1.1, am_beq h1.1.2, am_beq h1.2, h2, rfl⟩
theorem am_lt_of {i : Int32} {n : Nat} (h : vp_in i n) : i.toNatClampNeg < n := Nat.not_le.mp fun q => h (Or.inr q)
theorem am_Ok.arr {s : State} {D : va_G} {dA : Nat → ClassId} {B0 : Nat} {ca : Nat → Nat} {h : am_H} {H H' : Heap} {locs : List Loc} {x j : Nat} {v : Value} (hO : am_Ok s D dA B0 ca h H locs) (hx : x < h.1) (h1 : (h.2.2.1 x).1 = 1) (e1 : H'[am_ad B0 ca x]? = some ((arrV (dA (h.2.2.1 x).2.1) (h.2.2.1 x).2.2 (fun j => am_ga (am_ad B0 ca) (h.2.2.2 x j))).setSlot j (am_ga (am_ad B0 ca) v))) (hz : H'.size = H.size) (ho : ∀ q, q ≠ am_ad B0 ca x → H'[q]? = H[q]?) : am_Ok s D dA B0 ca (am_put h x j v) H' (locs ++ [⟨am_ad B0 ca x, j⟩]) := by
  obtain ⟨hx0, hA, hc⟩ := am_arr hO hx h1
  refine hO.put hx0 rfl rfl (fun k hk => ?_) hz ho (Or.inr ⟨h1, hA, ?_⟩)
  · funext i
    simp [am_put, am_up, hk]
  · rw [e1, arrV_store]
    show some _ = some (arrV (dA (h.2.2.1 x).2.1) (h.2.2.1 x).2.2 _)
    congr 2
    funext q
    by_cases hq : q = j
    · subst hq
      simp [updV, am_put, am_up]
    · simp [updV, am_put, am_up, hq]
theorem am_ga_dv (ad : Nat → Nat) (ty : FieldType) : am_ga ad (defaultValue ty) = defaultValue ty := by cases ty <;> rfl
theorem am_isA_4 {c : Nat} (h : am_isA (c + 4) = true) : c < 14 := by
  unfold am_isA at h
  simp only [Bool.or_eq_true] at h
  rcases h with (((q | q) | q) | q) | q
  · have := am_blt q; omega
  · have := am_beq q; omega
  · have := am_beq q; omega
  · have := am_beq q; omega
  · have := am_beq q; omega
theorem am_hin {cA : ClassId} {n : Nat} {f : Nat → Value} {i : Int32} (h : vp_in i n) : ¬ (i < 0 ∨ (arrV cA n f).slots.size ≤ i.toNatClampNeg) := by
  rw [arrV_size]; exact h
theorem am_aty4 (c : Nat) : am_aty (c + 4) = .object (am_cn c) := rfl
theorem am_RA_prim {U : State} {cA : ClassId} {a : Nat} (h1 : a < 4) (hR : va_RA U cA (am_aty a)) : U.vm.findClass ("[" ++ (am_aty a).toString) = some cA := by
  rcases (show a = 0 ∨ a = 1 ∨ a = 2 ∨ a = 3 by omega) with rfl | rfl | rfl | rfl
  · exact hR
  · exact hR
  · exact hR
  · exact hR
theorem am_dv_eq {a : Nat} (h1 : a < 4) (ad : Nat → Nat) : am_ga ad (am_dv a) = defaultValue (am_aty a) := by
  rcases (show a = 0 ∨ a = 1 ∨ a = 2 ∨ a = 3 by omega) with rfl | rfl | rfl | rfl <;> rfl
section AMA
variable {p : Program} {l : Launch} {e : Env} {R : Room} {s : State} {m : MethodId} {args : Array Value} {below : List Frame} {meth : Method} {c : Code} {Q : State → Prop} {D : va_G} {dA : Nat → ClassId} {B0 : Nat} {ca : Nat → Nat} {y : Nat} {h0 : am_H} {pc pc' : Nat} {ls st ls' st' : List Value} {h h' : am_H} {n : Nat} {t : Int} {a b w : Nat}
theorem am_k_iaload (C : am_Cx p s m args meth c D dA B0 ca y) (hd : decode (am_by y) pc = .ok (.iaload, 1)) (hs : am_st (.iaload, n, t, a, b, w) pc ls st h = some (pc', ls', st', h')) (k : am_Wp p l e R s m args below meth c Q D dA B0 ca y h0 pc' ls' st' h') : am_Wp p l e R s m args below meth c Q D dA B0 ca y h0 pc ls st h := by
  simp only [am_st] at hs
  split at hs
  · rename_i i x r
    split at hs
    · rename_i v hv
      obtain ⟨h1, h2, h3, h4, rfl⟩ := am_rd_spec hv
      cases hs
      intro H locs rls hO hL
      rcases h2 with h2 | h2
      · obtain ⟨hx0, hA, hc⟩ := am_arr hO h1 h2
        have e0 := am_beq h3
        have hA2 := (C.2.2.2.2.2.1.2.1 _ hA).1
        rw [e0] at hA2
        rw [e0] at hc
        exact W.iald (v := am_ga (am_ad B0 ca) (h.2.2.2 x i.toNatClampNeg)) C.1 C.2.1 hc (hA2 _ _) (fun q => by cases q) (am_hin h4) (by rw [arrV_read _ _ (am_lt_of h4)]) rfl rfl hd (k H locs rls hO hL)
      · obtain ⟨-, -, cell, z1, z2, z3, z4, z5, z6, z7⟩ := am_con hO h1 h2
        have hlt := am_lt_of h4
        have hin' : ¬ (i < 0 ∨ cell.slots.size ≤ i.toNatClampNeg) := by
          intro q
          rcases q with q | q
          · exact h4 (Or.inl q)
          · omega
        exact W.iald (v := am_ga (am_ad B0 ca) (h.2.2.2 x i.toNatClampNeg)) C.1 C.2.1 z1 z2 z3 hin' (z6 _ hlt) rfl rfl hd (k H locs rls hO hL)
    · cases hs
  · cases hs
theorem am_k_baload (C : am_Cx p s m args meth c D dA B0 ca y) (hd : decode (am_by y) pc = .ok (.baload, 1)) (hs : am_st (.baload, n, t, a, b, w) pc ls st h = some (pc', ls', st', h')) (k : am_Wp p l e R s m args below meth c Q D dA B0 ca y h0 pc' ls' st' h') : am_Wp p l e R s m args below meth c Q D dA B0 ca y h0 pc ls st h := by
  simp only [am_st] at hs
  split at hs
  · rename_i i x r
    split at hs
    · rename_i v hv
      obtain ⟨h1, h2, h3, h4, rfl⟩ := am_rd_spec hv
      rw [Bool.or_eq_true] at h3
      cases hs
      intro H locs rls hO hL
      rcases h2 with h2 | h2
      · obtain ⟨hx0, hA, hc⟩ := am_arr hO h1 h2
        have hA2 := (C.2.2.2.2.2.1.2.1 _ hA).1
        rcases h3 with h3 | h3
        · have e0 := am_beq h3
          rw [e0] at hA2
          rw [e0] at hc
          exact W.bald (v := am_ga (am_ad B0 ca) (h.2.2.2 x i.toNatClampNeg)) C.1 C.2.1 hc (hA2 _ _) (fun q => by cases q) (am_hin h4) (by rw [arrV_read _ _ (am_lt_of h4)]) rfl rfl hd (k H locs rls hO hL)
        · have e0 := am_beq h3
          rw [e0] at hA2
          rw [e0] at hc
          exact W.zald (v := am_ga (am_ad B0 ca) (h.2.2.2 x i.toNatClampNeg)) C.1 C.2.1 hc (hA2 _ _) (fun q => by cases q) (am_hin h4) (by rw [arrV_read _ _ (am_lt_of h4)]) rfl rfl hd (k H locs rls hO hL)
      · obtain ⟨-, q, -⟩ := am_con hO h1 h2
        rw [q] at h3
        rcases h3 with h3 | h3 <;> cases h3
    · cases hs
  · cases hs
theorem am_k_laload (C : am_Cx p s m args meth c D dA B0 ca y) (hd : decode (am_by y) pc = .ok (.laload, 1)) (hs : am_st (.laload, n, t, a, b, w) pc ls st h = some (pc', ls', st', h')) (k : am_Wp p l e R s m args below meth c Q D dA B0 ca y h0 pc' ls' st' h') : am_Wp p l e R s m args below meth c Q D dA B0 ca y h0 pc ls st h := by
  simp only [am_st] at hs
  split at hs
  · rename_i i x r
    split at hs
    · rename_i v hv
      obtain ⟨h1, h2, h3, h4, rfl⟩ := am_rd_spec hv
      cases hs
      intro H locs rls hO hL
      rcases h2 with h2 | h2
      · obtain ⟨hx0, hA, hc⟩ := am_arr hO h1 h2
        have hA2 := (C.2.2.2.2.2.1.2.1 _ hA).1
        have e0 := am_beq h3
        rw [e0] at hA2
        rw [e0] at hc
        exact W.lald (v := am_ga (am_ad B0 ca) (h.2.2.2 x i.toNatClampNeg)) C.1 C.2.1 hc (hA2 _ _) (fun q => by cases q) (am_hin h4) (by rw [arrV_read _ _ (am_lt_of h4)]) rfl rfl hd (k H locs rls hO hL)
      · obtain ⟨-, q, -⟩ := am_con hO h1 h2
        rw [q] at h3
        cases h3
    · cases hs
  · cases hs
theorem am_k_aaload (C : am_Cx p s m args meth c D dA B0 ca y) (hd : decode (am_by y) pc = .ok (.aaload, 1)) (hs : am_st (.aaload, n, t, a, b, w) pc ls st h = some (pc', ls', st', h')) (k : am_Wp p l e R s m args below meth c Q D dA B0 ca y h0 pc' ls' st' h') : am_Wp p l e R s m args below meth c Q D dA B0 ca y h0 pc ls st h := by
  simp only [am_st] at hs
  split at hs
  · rename_i i x r
    split at hs
    · rename_i v hv
      obtain ⟨h1, h2, h3, h4, rfl⟩ := am_rd_spec hv
      rw [Bool.and_eq_true] at h3
      cases hs
      intro H locs rls hO hL
      rcases h2 with h2 | h2
      · obtain ⟨hx0, hA, hc⟩ := am_arr hO h1 h2
        have hA2 := (C.2.2.2.2.2.1.2.1 _ hA).1
        have e0 : (h.2.2.1 x).2.1 = ((h.2.2.1 x).2.1 - 4) + 4 := by
          have := Nat.le_of_ble_eq_true h3.1
          omega
        rw [e0, am_aty4] at hA2
        rw [e0] at hc
        exact W.aald (v := am_ga (am_ad B0 ca) (h.2.2.2 x i.toNatClampNeg)) C.1 C.2.1 hc (hA2 _ _) rfl (fun q => by cases q) (am_hin h4) (by rw [arrV_read _ _ (am_lt_of h4)]) rfl rfl hd (k H locs rls hO hL)
      · obtain ⟨-, q, -⟩ := am_con hO h1 h2
        rw [q] at h3
        exact absurd h3.1 (by decide)
    · cases hs
  · cases hs
theorem am_k_arraylength (C : am_Cx p s m args meth c D dA B0 ca y) (hd : decode (am_by y) pc = .ok (.arraylength, 1)) (hs : am_st (.arraylength, n, t, a, b, w) pc ls st h = some (pc', ls', st', h')) (k : am_Wp p l e R s m args below meth c Q D dA B0 ca y h0 pc' ls' st' h') : am_Wp p l e R s m args below meth c Q D dA B0 ca y h0 pc ls st h := by
  simp only [am_st] at hs
  split at hs
  · rename_i x r
    split at hs
    · rename_i N hN
      unfold am_len at hN
      obtain ⟨h1, hN⟩ := am_cond hN
      simp only [Bool.and_eq_true, Bool.or_eq_true] at h1
      cases hN
      cases hs
      intro H locs rls hO hL
      rcases h1.2 with h2 | h2
      · obtain ⟨hx0, hA, hc⟩ := am_arr hO (am_blt h1.1) (am_beq h2)
        exact W.alen (n := Int32.ofNat (h.2.2.1 x).2.2) C.1 C.2.1 hc ((C.2.2.2.2.2.1.2.1 _ hA).1 _ _) (by rw [arrV_size] <;> rfl) rfl rfl hd (k H locs rls hO hL)
      · obtain ⟨-, -, cell, z1, z2, z3, z4, z5, z6, z7⟩ := am_con hO (am_blt h1.1) (am_beq h2)
        exact W.alen (n := Int32.ofNat (h.2.2.1 x).2.2) C.1 C.2.1 z1 z2 z5 rfl rfl hd (k H locs rls hO hL)
    · cases hs
  · cases hs
theorem am_k_iastore (C : am_Cx p s m args meth c D dA B0 ca y) (hd : decode (am_by y) pc = .ok (.iastore, 1)) (hs : am_st (.iastore, n, t, a, b, w) pc ls st h = some (pc', ls', st', h')) (k : am_Wp p l e R s m args below meth c Q D dA B0 ca y h0 pc' ls' st' h') : am_Wp p l e R s m args below meth c Q D dA B0 ca y h0 pc ls st h := by
  simp only [am_st] at hs
  split at hs
  · rename_i z i x r
    split at hs
    · rename_i h1 hw
      obtain ⟨h1, h2, h3, h4, rfl⟩ := am_wr_spec hw
      cases hs
      intro H locs rls hO hL
      obtain ⟨hx0, hA, hc⟩ := am_arr hO h1 h2
      have hA2 := (C.2.2.2.2.2.1.2.1 _ hA).1
      rw [h3] at hA2
      exact W.iast C.1 C.2.1 hc (h3 ▸ hA2 _ _) (fun q => by cases q) (am_hin h4) rfl rfl hd fun H' e1 e2 e3 => k H' _ rls (hO.arr (v := .int z) h1 h2 e1 e2 e3) hL
    · cases hs
  · cases hs
theorem am_k_lastore (C : am_Cx p s m args meth c D dA B0 ca y) (hd : decode (am_by y) pc = .ok (.lastore, 1)) (hs : am_st (.lastore, n, t, a, b, w) pc ls st h = some (pc', ls', st', h')) (k : am_Wp p l e R s m args below meth c Q D dA B0 ca y h0 pc' ls' st' h') : am_Wp p l e R s m args below meth c Q D dA B0 ca y h0 pc ls st h := by
  simp only [am_st] at hs
  split at hs
  · rename_i z i x r
    split at hs
    · rename_i h1 hw
      obtain ⟨h1, h2, h3, h4, rfl⟩ := am_wr_spec hw
      cases hs
      intro H locs rls hO hL
      obtain ⟨hx0, hA, hc⟩ := am_arr hO h1 h2
      have hA2 := (C.2.2.2.2.2.1.2.1 _ hA).1
      rw [h3] at hA2
      exact W.last C.1 C.2.1 hc (h3 ▸ hA2 _ _) (fun q => by cases q) (am_hin h4) rfl rfl hd fun H' e1 e2 e3 => k H' _ rls (hO.arr (v := .long z) h1 h2 e1 e2 e3) hL
    · cases hs
  · cases hs
theorem am_k_bastore (C : am_Cx p s m args meth c D dA B0 ca y) (hd : decode (am_by y) pc = .ok (.bastore, 1)) (hs : am_st (.bastore, n, t, a, b, w) pc ls st h = some (pc', ls', st', h')) (k : am_Wp p l e R s m args below meth c Q D dA B0 ca y h0 pc' ls' st' h') : am_Wp p l e R s m args below meth c Q D dA B0 ca y h0 pc ls st h := by
  simp only [am_st] at hs
  split at hs
  · rename_i z i x r
    split at hs
    · rename_i h1 hw
      cases hb : Nat.beq (h.2.2.1 x).2.1 1 with
      | true =>
        rw [hb] at hw
        obtain ⟨h1, h2, h3, h4, rfl⟩ := am_wr_spec hw
        cases hs
        intro H locs rls hO hL
        obtain ⟨hx0, hA, hc⟩ := am_arr hO h1 h2
        have hA2 := (C.2.2.2.2.2.1.2.1 _ hA).1
        rw [h3] at hA2
        exact W.bast C.1 C.2.1 hc (h3 ▸ hA2 _ _) (fun q => by cases q) (am_hin h4) rfl rfl hd fun H' e1 e2 e3 => k H' _ rls (hO.arr (v := .int z.toInt8.toInt32) h1 h2 e1 e2 e3) hL
      | false =>
        rw [hb] at hw
        obtain ⟨h1, h2, h3, h4, rfl⟩ := am_wr_spec hw
        cases hs
        intro H locs rls hO hL
        obtain ⟨hx0, hA, hc⟩ := am_arr hO h1 h2
        have hA2 := (C.2.2.2.2.2.1.2.1 _ hA).1
        rw [h3] at hA2
        exact W.zast C.1 C.2.1 hc (h3 ▸ hA2 _ _) (fun q => by cases q) (am_hin h4) rfl rfl hd fun H' e1 e2 e3 => k H' _ rls (hO.arr (v := .int (z &&& 1)) h1 h2 e1 e2 e3) hL
    · cases hs
  · cases hs
theorem am_k_aastore (C : am_Cx p s m args meth c D dA B0 ca y) (hd : decode (am_by y) pc = .ok (.aastore, 1)) (hs : am_st (.aastore, n, t, a, b, w) pc ls st h = some (pc', ls', st', h')) (k : am_Wp p l e R s m args below meth c Q D dA B0 ca y h0 pc' ls' st' h') : am_Wp p l e R s m args below meth c Q D dA B0 ca y h0 pc ls st h := by
  simp only [am_st] at hs
  split at hs
  · rename_i v i x r
    obtain ⟨h5, hs⟩ := am_cond hs
    rw [Bool.and_eq_true] at h5
    split at hs
    · rename_i h1 hw
      obtain ⟨h1, h2, h3, h4, rfl⟩ := am_wr_spec hw
      cases hs
      intro H locs rls hO hL
      obtain ⟨hx0, hA, hc⟩ := am_arr hO h1 h2
      have hci := am_isA_4 h5.2
      obtain ⟨hv0, cv, g1, g2, g3, g4⟩ := am_obj hO h5.1 hci
      have hcls := (C.2.2.2.2.2.1.1.1 _ _ (am_cl _ hci)).2
      obtain ⟨kA, comp, k1, k2, k3, -⟩ := (C.2.2.2.2.2.1.2.1 _ h5.2).2
      have hcomp : comp = D.1 (h.2.2.1 v).2.1 := Option.some.inj (k3.symm.trans hcls.1)
      subst hcomp
      obtain ⟨kC, hkC, -⟩ := hcls.2
      refine W.aast C.1 C.2.1 hc (fun q h => by cases h) (fun h => by cases h) (k := kA) (by rw [h3]; exact k1) k2 rfl hkC ⟨fun q => h4 (Or.inl q), by show _ < (arrV _ _ _).slots.size; rw [arrV_size]; exact am_lt_of h4⟩ g1 (fun q h => by rw [g3] at h; cases h) (by rw [g2]; exact hkC) (by rw [g2]; exact va_assign hcls) rfl rfl hd fun H' e1 e2 e3 => k H' _ rls (hO.arr (v := .ref v) h1 h2 e1 e2 e3) hL
    · cases hs
  · cases hs
theorem am_k_new {idx : Nat} (C : am_Cx p s m args meth c D dA B0 ca y) (hd : decode (am_by y) pc = .ok (.new idx, 3)) (hce : am_chE y (am_in y).1 pc (.new idx, n, t, a, b, w) = true) (hs : am_st (.new idx, n, t, a, b, w) pc ls st h = some (pc', ls', st', h')) (hm : h0.1 ≤ h.1 ∧ h0.2.1 ≤ h.2.1) (hcap : h'.1 - h0.1 ≤ R.cells ∧ h'.2.1 - h0.2.1 ≤ R.slots) (k : am_Wp p l e R s m args below meth c Q D dA B0 ca y h0 pc' ls' st' h') : am_Wp p l e R s m args below meth c Q D dA B0 ca y h0 pc ls st h := by
  simp only [am_chE, Bool.and_eq_true] at hce
  obtain ⟨h1, h2⟩ := hce
  have h1 := am_blt h1
  simp only [am_st] at hs
  cases hs
  intro H locs rls hO hL
  obtain ⟨hx, hb, hml, hown, hts, hT, hin, hB⟩ := C
  have hKn := hT.1.1 a _ (am_cl a h1)
  have c1 : h.1 + 1 - h0.1 ≤ R.cells := hcap.1
  have c2 : h.2.1 + am_N a - h0.2.1 ≤ R.slots := hcap.2
  refine W.newcK (n := am_N a) hx hb hown (hts _ (am_clk (of_decide_eq_true h2))) (hts _ (am_cls h1).2.1) (hts _ (am_cls h1).2.2) rfl hd (by omega) (by omega) hKn.2.1 rfl fun H1 kC hkC e1 z1 o1 => ?_
  have hob := u_born (am_ty a) hts (am_cls h1).1 hKn hkC e1 (am_cT a h1).1
  have hk := k H1 locs rls (hO.mk (sh := (0, a, am_N a)) (N := am_N a) (d := fun j => defaultValue (am_ty a j)) z1 o1 (Or.inl ⟨by simp [am_mk], (am_cn a, am_TT a, am_N a), by simp only [am_mk, if_true]; exact am_cl a h1, ?_⟩)) hL
  · have e2 : (am_mk h (0, a, am_N a) (am_N a) (fun j => defaultValue (am_ty a j))).1 - h0.1 = h.1 - h0.1 + 1 := by
      show h.1 + 1 - h0.1 = _
      omega
    have e3 : (am_mk h (0, a, am_N a) (am_N a) (fun j => defaultValue (am_ty a j))).2.1 - h0.2.1 = h.2.1 - h0.2.1 + am_N a := by
      show h.2.1 + am_N a - h0.2.1 = _
      omega
    rw [e2, e3] at hk
    simp only [List.map_cons, am_ga, am_ad_new hO.1] at hk
    exact hk
  · simp only [am_mk, if_true, am_ad_new hO.1]
    refine hob.to (fun j hj => ?_)
    simp only [am_row, if_true]
    exact (am_ga_dv _ _).symm
theorem am_k_newarray {at0 : ArrayType} (C : am_Cx p s m args meth c D dA B0 ca y) (hd : decode (am_by y) pc = .ok (.newarray at0, 2)) (hce : am_chE y (am_in y).1 pc (.newarray at0, n, t, a, b, w) = true) (hs : am_st (.newarray at0, n, t, a, b, w) pc ls st h = some (pc', ls', st', h')) (hm : h0.1 ≤ h.1 ∧ h0.2.1 ≤ h.2.1) (hcap : h'.1 - h0.1 ≤ R.cells ∧ h'.2.1 - h0.2.1 ≤ R.slots) (k : am_Wp p l e R s m args below meth c Q D dA B0 ca y h0 pc' ls' st' h') : am_Wp p l e R s m args below meth c Q D dA B0 ca y h0 pc ls st h := by
  simp only [am_chE, Bool.and_eq_true] at hce
  obtain ⟨h1, h2⟩ := hce
  have h1 := am_blt h1
  have h2 : newarray.typeOf at0 = am_aty a := of_decide_eq_true h2
  simp only [am_st] at hs
  split at hs
  · rename_i N r
    obtain ⟨h3, hs⟩ := am_ifn hs
    cases hs
    intro H locs rls hO hL
    obtain ⟨hx, hb, hml, hown, hts, hT, hin, hB⟩ := C
    have hA : am_isA a = true := by
      unfold am_isA
      rw [show Nat.blt a 4 = true from Nat.ble_eq_true_of_le h1]
      rfl
    have hR := (hT.2.1 a hA).2
    have c1 : h.1 + 1 - h0.1 ≤ R.cells := hcap.1
    have c2 : h.2.1 + N.toNatClampNeg - h0.2.1 ≤ R.slots := hcap.2
    have hN0 : ¬ N < 0 := fun q => h3 (Or.inl q)
    have hN1 : N.toNatClampNeg ≤ 100000 := Nat.not_lt.mp fun q => h3 (Or.inr q)
    have hbytes : N.toNatClampNeg * componentBytes (newarray.typeOf at0) ≤ 536870912 := by
      have : componentBytes (newarray.typeOf at0) ≤ 8 := by cases at0 <;> decide
      calc N.toNatClampNeg * componentBytes (newarray.typeOf at0) ≤ 100000 * 8 := Nat.mul_le_mul hN1 this
        _ ≤ 536870912 := by decide
    refine va_newaK hx hb (h2 ▸ hts _ (am_arrC a h1)) rfl hd rfl hN0 rfl hbytes (by omega) (by omega) rfl fun H1 cA e1 z1 o1 hAr hNm => ?_
    have hcA : cA = dA a := by
      have q1 : s.vm.findClass ("[" ++ (am_aty a).toString) = some (dA a) := am_RA_prim h1 hR
      rw [h2] at hNm
      exact Option.some.inj (hNm.symm.trans q1)
    have hdv : ∀ ad : Nat → Nat, am_ga ad (am_dv a) = defaultValue (newarray.typeOf at0) := fun ad => by rw [h2]; exact am_dv_eq h1 ad
    have hk := k H1 locs rls (hO.mk (sh := (1, a, N.toNatClampNeg)) (N := N.toNatClampNeg) (d := fun _ => am_dv a) z1 o1 (Or.inr ⟨by simp [am_mk], by simp only [am_mk, if_true]; exact hA, ?_⟩)) hL
    · have e2 : (am_mk h (1, a, N.toNatClampNeg) N.toNatClampNeg (fun _ => am_dv a)).1 - h0.1 = h.1 - h0.1 + 1 := by
        show h.1 + 1 - h0.1 = _
        omega
      have e3 : (am_mk h (1, a, N.toNatClampNeg) N.toNatClampNeg (fun _ => am_dv a)).2.1 - h0.2.1 = h.2.1 - h0.2.1 + N.toNatClampNeg := by
        show h.2.1 + N.toNatClampNeg - h0.2.1 = _
        omega
      rw [e2, e3] at hk
      simp only [List.map_cons, am_ga, am_ad_new hO.1] at hk
      exact hk
    · simp only [am_mk, if_true, am_ad_new hO.1, am_row, hdv]
      rw [← hcA]
      exact e1
  · cases hs
theorem am_k_anewarray {idx : Nat} (C : am_Cx p s m args meth c D dA B0 ca y) (hd : decode (am_by y) pc = .ok (.anewarray idx, 3)) (hce : am_chE y (am_in y).1 pc (.anewarray idx, n, t, a, b, w) = true) (hs : am_st (.anewarray idx, n, t, a, b, w) pc ls st h = some (pc', ls', st', h')) (hm : h0.1 ≤ h.1 ∧ h0.2.1 ≤ h.2.1) (hcap : h'.1 - h0.1 ≤ R.cells ∧ h'.2.1 - h0.2.1 ≤ R.slots) (k : am_Wp p l e R s m args below meth c Q D dA B0 ca y h0 pc' ls' st' h') : am_Wp p l e R s m args below meth c Q D dA B0 ca y h0 pc ls st h := by
  simp only [am_chE, Bool.and_eq_true] at hce
  obtain ⟨⟨h1, hA⟩, h2⟩ := hce
  have h1 := Nat.le_of_ble_eq_true h1
  obtain ⟨ci, rfl⟩ : ∃ ci, a = ci + 4 := ⟨a - 4, by omega⟩
  simp only [am_st] at hs
  split at hs
  · rename_i N r
    obtain ⟨h3, hs⟩ := am_ifn hs
    cases hs
    intro H locs rls hO hL
    obtain ⟨hx, hb, hml, hown, hts, hT, hin, hB⟩ := C
    obtain ⟨kA0, comp0, r1, r2, r3, r4⟩ := (hT.2.1 (ci + 4) hA).2
    have c1 : h.1 + 1 - h0.1 ≤ R.cells := hcap.1
    have c2 : h.2.1 + N.toNatClampNeg - h0.2.1 ≤ R.slots := hcap.2
    have hN0 : ¬ N < 0 := fun q => h3 (Or.inl q)
    have hN1 : N.toNatClampNeg ≤ 100000 := Nat.not_lt.mp fun q => h3 (Or.inr q)
    have hlk : Cond.classLink (am_cn (am_in y).1) idx (am_cn ci) ∈ am_big := by
      have q := am_clk (of_decide_eq_true h2)
      rwa [show ci + 4 - 4 = ci from rfl] at q
    refine W.anew hx hb hown (hts _ hlk) (va_AO.use (hT.2.2.2.1 ci hA)) rfl hd rfl hN0 (by omega) (by omega) (by omega) fun cA kA comp f1 f2 f3 f4 => ?_
    generalize hH1 : H.push ({ cls := cA, slots := Array.replicate N.toNatClampNeg .null, vm := .none } : Cell) = H1
    have z1 : H1.size = H.size + 1 := by rw [← hH1, Array.size_push]
    have e1 : H1[H.size]? = some (arrV cA N.toNatClampNeg (fun _ => .null)) := by rw [← hH1, Array.getElem?_push_size, ← arrV_new]
    have o1 : ∀ q : Nat, q < H.size → H1[q]? = H[q]? := fun q hq => by rw [← hH1, Array.getElem?_push, if_neg (Nat.ne_of_lt hq)]
    have hcA : cA = dA (ci + 4) := Option.some.inj (f1.symm.trans r4)
    have hk := k H1 locs rls (hO.mk (sh := (1, ci + 4, N.toNatClampNeg)) (N := N.toNatClampNeg) (d := fun _ => .null) z1 o1 (Or.inr ⟨by simp [am_mk], by simp only [am_mk, if_true]; exact hA, ?_⟩)) hL
    · have e2 : (am_mk h (1, ci + 4, N.toNatClampNeg) N.toNatClampNeg (fun _ => Value.null)).1 - h0.1 = h.1 - h0.1 + 1 := by
        show h.1 + 1 - h0.1 = _
        omega
      have e3 : (am_mk h (1, ci + 4, N.toNatClampNeg) N.toNatClampNeg (fun _ => Value.null)).2.1 - h0.2.1 = h.2.1 - h0.2.1 + N.toNatClampNeg := by
        show h.2.1 + N.toNatClampNeg - h0.2.1 = _
        omega
      rw [e2, e3] at hk
      simp only [List.map_cons, am_ga, am_ad_new hO.1] at hk
      exact hk
    · simp only [am_mk, if_true, am_ad_new hO.1, am_row, am_ga]
      rw [← hcA]
      exact e1
  · cases hs
end AMA
end
section
/-! CALLS -/
theorem am_Con.alike {B0 : Nat} {ca : Nat → Nat} {h : am_H} {s U : State} {H : Heap} (hW : s.vm.Alike U.vm) (hC : am_Con B0 ca h s H) : am_Con B0 ca h U H :=
  fun k hk => ⟨(hC k hk).1, (hC k hk).2.1, fun h2 => ⟨((hC k hk).2.2 h2).1, ((hC k hk).2.2 h2).2.moved hW⟩⟩
theorem am_Sta.alike {B0 : Nat} {ca : Nat → Nat} {s U : State} {H : Heap} (hW : s.vm.Alike U.vm) (hC : am_Sta B0 ca s H) : am_Sta B0 ca U H := by
  obtain ⟨h1, ⟨v, h2, h3⟩, ⟨w, h4, h5⟩, h6⟩ := hC
  exact ⟨fun k a b => (h1 k a b).moved hW, ⟨v, h2, h3.moved hW⟩, ⟨w, h4, h5.moved hW⟩, h6.moved hW⟩
def am_ws (z : Nat) : List Cond := am_cw z :: am_big
def am_Pc (D : va_G) (dA : Nat → ClassId) (B0 : Nat) (ca : Nat → Nat) (as : List Value) (h : am_H) : Array Value → State → Prop :=
  va_Pc (as.map (am_ga (am_ad B0 ca))) (fun U => am_Rep D dA B0 ca h U.heap ∧ am_Con B0 ca h U U.heap ∧ am_Sta B0 ca U U.heap ∧ am_Tab D dA ca U ∧ B0 ≤ U.heap.size)
def am_Qc (D : va_G) (dA : Nat → ClassId) (B0 : Nat) (ca : Nat → Nat) (r : Option Value) (h' : am_H) : Array Value → State → Outcome → State → Prop :=
  fun _ _ o t => o = .returned (r.map (am_ga (am_ad B0 ca))) ∧ am_Rep D dA B0 ca h' t.heap ∧ am_Con B0 ca h' t t.heap ∧ am_Sta B0 ca t t.heap
def am_rm (d : Nat) (h h' : am_H) : Room := { frames := d, cells := h'.1 - h.1, slots := h'.2.1 - h.2.1, locals := 64 * d }
def am_Met (l : Launch) (D : va_G) (dA : Nat → ClassId) (B0 : Nat) (ca : Nat → Nat) (d z : Nat) (as : List Value) (h : am_H) (r : Option Value) (h' : am_H) : Prop :=
  Met l (am_nm z) (am_ws z) (am_rm d h h') (am_Pc D dA B0 ca as h) (am_Qc D dA B0 ca r h') (h'.1 - h.1) (h'.2.1 - h.2.1) (fun q => B0 ≤ q)
theorem am_blind {D : va_G} {dA : Nat → ClassId} {B0 : Nat} {ca : Nat → Nat} {as : List Value} {h : am_H} : FrameBlind (am_Pc D dA B0 ca as h) := by
  intro a U g mk q
  obtain ⟨q0, q1, q2, q3, q4, q5⟩ := q
  exact ⟨q0, q1, am_Con.alike (s := U) (U := U.calling g mk a) (Vm.Alike.refl U.vm) q2, am_Sta.alike (s := U) (U := U.calling g mk a) (Vm.Alike.refl U.vm) q3, am_Tab.warm (s := U) (U := U.calling g mk a) (State.WarmedH.refl U) q4, q5⟩
theorem am_cnm_eq {z : Nat} (hz : z < am_NM) : am_cnm z = am_nm z := by
  have hz : z < 264 := hz
  have f : ∀ k : Nat, 264 ≤ k → Nat.beq z k = false := by
    intro k hk
    cases h : Nat.beq z k with
    | false => rfl
    | true => exact absurd (am_beq h) (by omega)
  unfold am_cnm
  rw [f 1000 (by omega), f 1001 (by omega), f 1002 (by omega), f 1003 (by omega), f 1004 (by omega)]
  rfl
/-- what the tables say of a method -/
theorem am_mth {z : Nat} (h1 : 1 ≤ z) (h2 : z < am_NM) : am_chM z = true := by
  have h2 : z < 264 := h2
  have key : ∀ (n b : Nat), ((List.range n).all fun k => am_chM (b + k)) = true → b ≤ z → z < b + n → am_chM z = true := by
    intro n b hh q1 q2
    have := List.all_eq_true.mp hh (z - b) (List.mem_range.mpr (by omega))
    rwa [show b + (z - b) = z by omega] at this
  rcases Nat.lt_or_ge z 45 with q | q
  · exact key _ _ am_kM0 h1 (by omega)
  rcases Nat.lt_or_ge z 89 with q2 | q2
  · exact key _ _ am_kM1 q (by omega)
  rcases Nat.lt_or_ge z 133 with q3 | q3
  · exact key _ _ am_kM2 q2 (by omega)
  rcases Nat.lt_or_ge z 177 with q4 | q4
  · exact key _ _ am_kM3 q3 (by omega)
  rcases Nat.lt_or_ge z 221 with q5 | q5
  · exact key _ _ am_kM4 q4 (by omega)
  exact key _ _ am_kM5 q5 (by omega)
theorem am_pn : ∀ k, k < 19 → k ≠ 15 → plainName (am_cn k) = true ∧ am_cn k ≠ "java/lang/invoke/MethodHandle" ∧ am_cn k ≠ "java/lang/invoke/VarHandle" := by decide +kernel
theorem am_k15 : ((List.range 264).all fun z => !(Nat.beq (am_in z).1 15) || Nat.beq z 10 || Nat.beq z 57) = true := by decide +kernel
theorem am_n15 {z : Nat} (h2 : z < am_NM) (h3 : z ≠ 10) (h4 : z ≠ 57) : (am_in z).1 ≠ 15 := by
  intro q
  have h := List.all_eq_true.mp am_k15 z (List.mem_range.mpr h2)
  rw [q] at h
  simp only [Bool.or_eq_true, Bool.not_eq_true'] at h
  rcases h with (h | h) | h
  · cases h
  · exact h3 (am_beq h)
  · exact h4 (am_beq h)
/-- a method of the tables: its numbers and its words -/
def am_Mk (z : Nat) : Prop :=
  plainName (am_nm z).cls = true ∧ ((am_nm z).cls ≠ "java/lang/invoke/MethodHandle" ∧ (am_nm z).cls ≠ "java/lang/invoke/VarHandle") ∧ (parseMethodDescriptor (am_nm z).desc).map (fun d => d.parameters.length) = some ((am_in z).2.1 - (bif Nat.beq (am_in z).2.2.2 1 then 0 else 1)) ∧
  am_cw z ∈ am_big ∧ am_kw z ∈ am_big ∧ Cond.initialized (am_nm z).cls ∈ am_big ∧ (am_nm z).cls = am_cn (am_in z).1 ∧ (am_in z).2.2.1 ≤ 40 ∧ (am_in z).2.2.2 ≤ 3 ∧
  (((am_in z).2.2.2 = 0 ∨ (am_in z).2.2.2 = 3) → Cond.selects (am_nm z).cls (am_nm z) (am_nm z) ∈ am_big ∧ (am_in z).1 < 14) ∧ ((am_in z).2.2.2 = 2 → (am_nm z).name = "<init>" ∧ am_rt z = none) ∧ ((am_in z).2.2.2 ≠ 1 → 1 ≤ (am_in z).2.1)
theorem am_mk_of {z : Nat} (h1 : 1 ≤ z) (h2 : z < am_NM) (h3 : z ≠ 10) (h4 : z ≠ 57) : am_Mk z := by
  have h := am_mth h1 h2
  unfold am_chM at h
  simp only [Bool.and_eq_true] at h
  obtain ⟨⟨⟨⟨⟨⟨⟨⟨⟨⟨a1, a2⟩, a3⟩, a4⟩, a5⟩, a6⟩, a7⟩, a8⟩, a9⟩, a10⟩, a11⟩ := h
  have hcn := am_mN h1 h2
  obtain ⟨p1, p2, p3⟩ := am_pn _ (am_blt a6) (am_n15 h2 h3 h4)
  have gw : ∀ w : Cond, am_isN w = false → True := fun _ _ => trivial
  refine ⟨by rw [hcn]; exact p1, ⟨by rw [hcn]; exact p2, by rw [hcn]; exact p3⟩, of_decide_eq_true a7, ?_, ?_, ?_, hcn, Nat.le_of_ble_eq_true a9, Nat.le_of_ble_eq_true a10, ?_, ?_, ?_⟩
  · refine am_big_of ?_ ?_
    · rw [← am_mC h1 h2]; exact am_wt_in (am_blt a1)
    · unfold am_cw
      cases Nat.beq (am_in z).2.2.2 3 <;> rfl
  · refine am_big_of ?_ ?_
    · rw [← am_mK h1 h2]; exact am_wt_in (am_blt a2)
    · unfold am_kw
      cases Nat.beq (am_in z).2.2.2 1 <;> rfl
  · refine am_big_of ?_ rfl
    rw [← am_mI h1 h2]; exact am_wt_in (am_blt a4)
  · intro q
    have hq : (Nat.beq (am_in z).2.2.2 0 || Nat.beq (am_in z).2.2.2 3) = true := by
      rcases q with q | q <;> rw [q] <;> rfl
    rw [hq] at a5
    refine ⟨am_big_of ?_ rfl, am_blt a5⟩
    have hs := am_mS h1 h2
    unfold am_sw at hs
    rw [hq] at hs
    have hs : am_wt (am_wd z).2.2.1 = .selects (am_nm z).cls (am_nm z) (am_nm z) := hs
    rw [← hs]; exact am_wt_in (am_blt a3)
  · intro q
    have hq : Nat.beq (am_in z).2.2.2 2 = true := by rw [q]; rfl
    rw [hq] at a8
    have hv := am_mV h1 h2
    rw [hq] at hv
    exact ⟨hv, of_decide_eq_true a8⟩
  · intro q
    have hq : Nat.beq (am_in z).2.2.2 1 = false := by
      cases hh : Nat.beq (am_in z).2.2.2 1 with
      | false => rfl
      | true => exact absurd (am_beq hh) q
    rw [hq] at a11
    exact Nat.le_of_ble_eq_true a11
theorem am_good {z : Nat} (h : am_Mk z) : GoodIn am_big (am_ws z) := by
  intro w hw
  have hb : w ∈ am_big := by
    rcases List.mem_cons.mp hw with q | q
    · rw [q]; exact h.2.2.2.1
    · exact q
  exact ⟨hb, good_of_word (List.mem_filter.mp hb).2⟩
section AMC
variable {p : Program} {l : Launch} {e : Env} {R : Room} {s : State} {m : MethodId} {args : Array Value} {below : List Frame} {meth : Method} {c : Code} {Q : State → Prop} {D : va_G} {dA : Nat → ClassId} {B0 : Nat} {ca : Nat → Nat} {y : Nat} {h0 : am_H} {pc : Nat} {ls st : List Value} {h h1 : am_H} {H : Heap} {locs : List Loc} {rls : Array Slot}
theorem am_preU {as : List Value} (C : am_Cx p s m args meth c D dA B0 ca y) (hO : am_Ok s D dA B0 ca h H locs) {vs : List Value} (hv : vs = as.map (am_ga (am_ad B0 ca))) : ∀ U : State, U.heap = H → s.WarmedH U.vm → am_Pc D dA B0 ca as h vs.toArray U := by
  intro U hU hW
  subst hU
  refine ⟨by rw [hv], hO.1, hO.2.1.warm hW, hO.2.2.1.warm hW, C.2.2.2.2.2.1.warm hW, ?_⟩
  rw [hO.1.2.1]
  omega
theorem am_after {r : Option Value} {rest rest' st0 : List Value} {av : Array Value} (hr : va_Run p l e R s m args below meth c H locs (h.1 - h0.1) (h.2.1 - h0.2.1) (h1.1 - h.1) (h1.2.1 - h.2.1) (F0 m pc rls st0) rest' (am_Qc D dA B0 ca r h1 av) (fun q => B0 ≤ q)) (hO : am_Ok s D dA B0 ca h H locs) (hm : h0.1 ≤ h.1 ∧ h0.2.1 ≤ h.2.1) (hm1 : h.1 ≤ h1.1 ∧ h.2.1 ≤ h1.2.1) (hL : am_LR (am_ad B0 ca) rls (am_in y).2.2.1 ls) (hrest : rest' = rest.map (am_ga (am_ad B0 ca))) (k : am_Wp p l e R s m args below meth c Q D dA B0 ca y h0 (pc + 3) ls (r.toList ++ rest) h1) : W p l e R s m args below meth c H locs (h.1 - h0.1) (h.2.1 - h0.2.1) Q (F0 m pc rls st0) := by
  intro T hT X
  obtain ⟨v, st₀, t, T', L, e0, X', hL', e1, e2, ⟨q1, q2, q3, q4⟩, stp⟩ := hr T hT X
  cases q1
  have hal : t.vm.Alike s.vm := by rw [← e2]; exact X'.warmed.alike.symm
  have hO' : am_Ok s D dA B0 ca h1 T'.heap (locs ++ L) := ⟨by rw [e1]; exact q2, by rw [e1]; exact q3.alike hal, by rw [e1]; exact q4.alike hal, fun q hq => (List.mem_append.mp hq).elim (hO.2.2.2 q) (hL' q)⟩
  have hk := k T'.heap (locs ++ L) rls hO' hL
  have c1 : h.1 - h0.1 + (h1.1 - h.1) = h1.1 - h0.1 := by omega
  have c2 : h.2.1 - h0.2.1 + (h1.2.1 - h.2.1) = h1.2.1 - h0.2.1 := by omega
  rw [c1, c2] at X'
  obtain ⟨t2, a1, b1⟩ := hk T' rfl X'
  refine ⟨t2, stp t2 ?_, b1⟩
  have e3 : (r.toList ++ rest).map (am_ga (am_ad B0 ca)) = (r.map (am_ga (am_ad B0 ca))).toList ++ rest' := by
    rw [hrest, List.map_append]
    cases r <;> rfl
  rw [e3] at a1
  exact a1
theorem am_roomW {rest : List Value} (h : am_cs rest ≤ 8) : 2 * (F0 m pc rls st).monitorRoom + (((rest.map (am_ga (am_ad B0 ca)))).map fun v => v.category).sum ≤ 8 := by
  rw [am_cs_map]
  exact lv_room (m := m) (pc := pc) (ls := rls) (rest := st) (st := rest) h
/-- the method that is called: its cells and what it may use -/
theorem am_callB {z d n index : Nat} {own : String} (hts : ∀ w ∈ am_big, w.before args s = true) (hz : am_Mk z) (h3 : (am_in z).2.2.2 ≠ 3) (hl : (Cond.methodLink own index (am_nm z)).before args s = true) (hn : (am_in z).2.1 - (bif Nat.beq (am_in z).2.2.2 1 then 0 else 1) = n) (hR : d + 1 ≤ R.frames ∧ 64 * (d + 1) ≤ R.locals) : CallB R s args own index (am_nm z) (am_by z) (am_in z).2.2.1 (am_rt z) (am_ws z) (am_rm d h h1) (h1.1 - h.1) (h1.2.1 - h.2.1) n := by
  obtain ⟨z1, z2, z3, z4, z5, z6, z7, z8, z9, z10, z11, z12⟩ := id hz
  have hcw : am_cw z = .code (am_nm z) (am_by z) (am_in z).2.2.1 (am_rt z) := by
    unfold am_cw
    have : Nat.beq (am_in z).2.2.2 3 = false := by
      cases hh : Nat.beq (am_in z).2.2.2 3 with
      | false => rfl
      | true => exact absurd (am_beq hh) h3
    rw [this]
    rfl
  refine callB_of n hts (am_good hz) (ws' := am_big) (by rw [am_ws, hcw]) rfl rfl (hts _ z6) hl ⟨z2.1, z2.2, by rw [z3, hn]⟩ ⟨hR.1, ?_⟩
  show 8 + ((am_in z).2.2.1 + 11) + 64 * d ≤ R.locals
  omega
theorem am_callN {z d n index : Nat} {own : String} (hts : ∀ w ∈ am_big, w.before args s = true) (hz : am_Mk z) (h3 : (am_in z).2.2.2 ≠ 3) (hl : va_Nw (.methodLinkNest own index (am_nm z) "PoetsBook") s) (hn : (am_in z).2.1 - (bif Nat.beq (am_in z).2.2.2 1 then 0 else 1) = n) (hR : d + 1 ≤ R.frames ∧ 64 * (d + 1) ≤ R.locals) : va_CN R s args own index (am_nm z) "PoetsBook" (am_by z) (am_in z).2.2.1 (am_rt z) (am_ws z) (am_rm d h h1) (h1.1 - h.1) (h1.2.1 - h.2.1) n := by
  obtain ⟨z1, z2, z3, z4, z5, z6, z7, z8, z9, z10, z11, z12⟩ := id hz
  have hcw : am_cw z = .code (am_nm z) (am_by z) (am_in z).2.2.1 (am_rt z) := by
    unfold am_cw
    have : Nat.beq (am_in z).2.2.2 3 = false := by
      cases hh : Nat.beq (am_in z).2.2.2 3 with
      | false => rfl
      | true => exact absurd (am_beq hh) h3
    rw [this]
    rfl
  refine va_cnB n hts (am_good hz) (ws' := am_big) (by rw [am_ws, hcw]) rfl rfl hl (hts _ z6) ⟨z2.1, z2.2, by rw [z3, hn]⟩ ⟨hR.1, ?_⟩
  show 8 + ((am_in z).2.2.1 + 11) + 64 * d ≤ R.locals
  omega
end AMC
end
section
/-! A STEP, whatever the instruction -/
theorem am_chP_use {y pc : Nat} {en : am_E} (hc : am_code y pc = some en) (hp : am_chP y pc = true) : en.2.1 = am_ln en.1 en.2.1 ∧ decode (am_by y) pc = .ok (en.1, en.2.1) ∧ am_chE y (am_in y).1 pc en = true := by
  unfold am_chP at hp
  rw [hc] at hp
  simp only [Bool.and_eq_true] at hp
  exact ⟨am_beq hp.1.1, of_decide_eq_true hp.1.2, hp.2⟩
set_option maxHeartbeats 4000000 in
theorem am_step {p : Program} {l : Launch} {e : Env} {R : Room} {s : State} {m : MethodId} {args : Array Value} {below : List Frame} {meth : Method} {c : Code} {Q : State → Prop} {D : va_G} {dA : Nat → ClassId} {B0 : Nat} {ca : Nat → Nat} {y : Nat} {h0 : am_H} {pc pc' : Nat} {ls st ls' st' : List Value} {h h' : am_H} {en : am_E} (C : am_Cx p s m args meth c D dA B0 ca y) (hc : am_code y pc = some en) (hp : am_chP y pc = true) (hs : am_st en pc ls st h = some (pc', ls', st', h')) (hm : h0.1 ≤ h.1 ∧ h0.2.1 ≤ h.2.1) (hcap : h'.1 - h0.1 ≤ R.cells ∧ h'.2.1 - h0.2.1 ≤ R.slots) (k : am_Wp p l e R s m args below meth c Q D dA B0 ca y h0 pc' ls' st' h') : am_Wp p l e R s m args below meth c Q D dA B0 ca y h0 pc ls st h := by
  obtain ⟨hn, hd, hce⟩ := am_chP_use hc hp
  clear hc hp
  obtain ⟨i, n, t, a, b, w⟩ := en
  replace hn : n = am_ln i n := hn
  replace hd : decode (am_by y) pc = .ok (i, n) := hd
  cases i with
  | aconst_null =>
    obtain rfl : n = 1 := hn
    exact am_k_aconst_null C hd hce hs k
  | iconst x0 =>
    obtain rfl : n = 1 := hn
    exact am_k_iconst C hd hce hs k
  | bipush x0 =>
    obtain rfl : n = 2 := hn
    exact am_k_bipush C hd hce hs k
  | sipush x0 =>
    obtain rfl : n = 3 := hn
    exact am_k_sipush C hd hce hs k
  | lconst x0 =>
    obtain rfl : n = 1 := hn
    exact am_k_lconst C hd hce hs k
  | iload x0 =>
    obtain rfl : n = 2 := hn
    exact am_k_iload C hd hce hs k
  | iload_n x0 =>
    obtain rfl : n = 1 := hn
    exact am_k_iload_n C hd hce hs k
  | lload x0 =>
    obtain rfl : n = 2 := hn
    exact am_k_lload C hd hce hs k
  | lload_n x0 =>
    obtain rfl : n = 1 := hn
    exact am_k_lload_n C hd hce hs k
  | aload x0 =>
    obtain rfl : n = 2 := hn
    exact am_k_aload C hd hce hs k
  | aload_n x0 =>
    obtain rfl : n = 1 := hn
    exact am_k_aload_n C hd hce hs k
  | istore x0 =>
    obtain rfl : n = 2 := hn
    exact am_k_istore C hd hce hs k
  | istore_n x0 =>
    obtain rfl : n = 1 := hn
    exact am_k_istore_n C hd hce hs k
  | lstore x0 =>
    obtain rfl : n = 2 := hn
    exact am_k_lstore C hd hce hs k
  | lstore_n x0 =>
    obtain rfl : n = 1 := hn
    exact am_k_lstore_n C hd hce hs k
  | astore x0 =>
    obtain rfl : n = 2 := hn
    exact am_k_astore C hd hce hs k
  | astore_n x0 =>
    obtain rfl : n = 1 := hn
    exact am_k_astore_n C hd hce hs k
  | iinc x0 x1 =>
    obtain rfl : n = 3 := hn
    exact am_k_iinc C hd hce hs k
  | iadd =>
    obtain rfl : n = 1 := hn
    exact am_k_iadd C hd hce hs k
  | isub =>
    obtain rfl : n = 1 := hn
    exact am_k_isub C hd hce hs k
  | imul =>
    obtain rfl : n = 1 := hn
    exact am_k_imul C hd hce hs k
  | iand =>
    obtain rfl : n = 1 := hn
    exact am_k_iand C hd hce hs k
  | ior =>
    obtain rfl : n = 1 := hn
    exact am_k_ior C hd hce hs k
  | ixor =>
    obtain rfl : n = 1 := hn
    exact am_k_ixor C hd hce hs k
  | ineg =>
    obtain rfl : n = 1 := hn
    exact am_k_ineg C hd hce hs k
  | ishl =>
    obtain rfl : n = 1 := hn
    exact am_k_ishl C hd hce hs k
  | ishr =>
    obtain rfl : n = 1 := hn
    exact am_k_ishr C hd hce hs k
  | ladd =>
    obtain rfl : n = 1 := hn
    exact am_k_ladd C hd hce hs k
  | lsub =>
    obtain rfl : n = 1 := hn
    exact am_k_lsub C hd hce hs k
  | lmul =>
    obtain rfl : n = 1 := hn
    exact am_k_lmul C hd hce hs k
  | lor =>
    obtain rfl : n = 1 := hn
    exact am_k_lor C hd hce hs k
  | land =>
    obtain rfl : n = 1 := hn
    exact am_k_land C hd hce hs k
  | iushr =>
    obtain rfl : n = 1 := hn
    exact am_k_iushr C hd hce hs k
  | lshl =>
    obtain rfl : n = 1 := hn
    exact am_k_lshl C hd hce hs k
  | i2l =>
    obtain rfl : n = 1 := hn
    exact am_k_i2l C hd hce hs k
  | l2i =>
    obtain rfl : n = 1 := hn
    exact am_k_l2i C hd hce hs k
  | i2b =>
    obtain rfl : n = 1 := hn
    exact am_k_i2b C hd hce hs k
  | i2c =>
    obtain rfl : n = 1 := hn
    exact am_k_i2c C hd hce hs k
  | lcmp =>
    obtain rfl : n = 1 := hn
    exact am_k_lcmp C hd hce hs k
  | idiv =>
    obtain rfl : n = 1 := hn
    exact am_k_idiv C hd hce hs k
  | irem =>
    obtain rfl : n = 1 := hn
    exact am_k_irem C hd hce hs k
  | ldiv =>
    obtain rfl : n = 1 := hn
    exact am_k_ldiv C hd hce hs k
  | lrem =>
    obtain rfl : n = 1 := hn
    exact am_k_lrem C hd hce hs k
  | dup =>
    obtain rfl : n = 1 := hn
    exact am_k_dup C hd hce hs k
  | pop =>
    obtain rfl : n = 1 := hn
    exact am_k_pop C hd hce hs k
  | dup2 =>
    obtain rfl : n = 1 := hn
    exact am_k_dup2 C hd hce hs k
  | goto x0 =>
    obtain rfl : n = 3 := hn
    exact am_k_goto C hd hce hs k
  | ifCond cnd off =>
    obtain rfl : n = 3 := hn
    cases cnd with
    | eq => exact am_k_if_eq C hd hce hs k
    | lt => exact am_k_if_lt C hd hce hs k
    | ge => exact am_k_if_ge C hd hce hs k
    | gt => exact am_k_if_gt C hd hce hs k
    | le => exact am_k_if_le C hd hce hs k
    | ne => exact am_k_if_ne C hd hce hs k
  | if_icmp cnd off =>
    obtain rfl : n = 3 := hn
    cases cnd with
    | eq => exact am_k_icmp_eq C hd hce hs k
    | lt => exact am_k_icmp_lt C hd hce hs k
    | ge => exact am_k_icmp_ge C hd hce hs k
    | gt => exact am_k_icmp_gt C hd hce hs k
    | le => exact am_k_icmp_le C hd hce hs k
    | ne => exact am_k_icmp_ne C hd hce hs k
  | ifnull x0 =>
    obtain rfl : n = 3 := hn
    exact am_k_ifnull C hd hce hs k
  | ifnonnull x0 =>
    obtain rfl : n = 3 := hn
    exact am_k_ifnonnull C hd hce hs k
  | tableswitch d0 lo hi offs => exact am_k_tableswitch C hd hce hs k
  | ldc x0 =>
    obtain rfl : n = 2 := hn
    have hb0 : Nat.beq b 0 = true := by
      simp only [am_st] at hs
      exact (am_cond hs).1
    exact am_k_ldc C hd hce hb0 hs k
  | ldc_w x0 =>
    obtain rfl : n = 3 := hn
    have hb0 : Nat.beq b 0 = true := by
      simp only [am_st] at hs
      exact (am_cond hs).1
    exact am_k_ldc_w C hd hce hb0 hs k
  | ldc2_w x0 =>
    obtain rfl : n = 3 := hn
    exact am_k_ldc2_w C hd hce hs k
  | getstatic x0 =>
    obtain rfl : n = 3 := hn
    exact am_k_getstatic C hd hce hs k
  | getfield x0 =>
    obtain rfl : n = 3 := hn
    exact am_k_getfield C hd hce hs k
  | putfield x0 =>
    obtain rfl : n = 3 := hn
    exact am_k_putfield C hd hce hs k
  | iaload =>
    obtain rfl : n = 1 := hn
    exact am_k_iaload C hd hs k
  | baload =>
    obtain rfl : n = 1 := hn
    exact am_k_baload C hd hs k
  | laload =>
    obtain rfl : n = 1 := hn
    exact am_k_laload C hd hs k
  | aaload =>
    obtain rfl : n = 1 := hn
    exact am_k_aaload C hd hs k
  | arraylength =>
    obtain rfl : n = 1 := hn
    exact am_k_arraylength C hd hs k
  | iastore =>
    obtain rfl : n = 1 := hn
    exact am_k_iastore C hd hs k
  | lastore =>
    obtain rfl : n = 1 := hn
    exact am_k_lastore C hd hs k
  | bastore =>
    obtain rfl : n = 1 := hn
    exact am_k_bastore C hd hs k
  | aastore =>
    obtain rfl : n = 1 := hn
    exact am_k_aastore C hd hs k
  | new x0 =>
    obtain rfl : n = 3 := hn
    exact am_k_new C hd hce hs hm hcap k
  | newarray x0 =>
    obtain rfl : n = 2 := hn
    exact am_k_newarray C hd hce hs hm hcap k
  | anewarray x0 =>
    obtain rfl : n = 3 := hn
    exact am_k_anewarray C hd hce hs hm hcap k
  | _ => exact absurd hs (fun q => by cases q)
end
