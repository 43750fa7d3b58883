/-! the tables against the bytes, in one walk over them -/
def am_Dl : List (Nat × Nat × (Nat → Int → Instr)) := [(1, 0, fun _ _ => .aconst_null),
  (2, 0, fun _ _ => (.iconst (-1))),
  (3, 0, fun _ _ => (.iconst 0)),
  (4, 0, fun _ _ => (.iconst 1)),
  (5, 0, fun _ _ => (.iconst 2)),
  (6, 0, fun _ _ => (.iconst 3)),
  (7, 0, fun _ _ => (.iconst 4)),
  (8, 0, fun _ _ => (.iconst 5)),
  (9, 0, fun _ _ => (.lconst 0)),
  (10, 0, fun _ _ => (.lconst 1)),
  (16, 2, fun _ a => (.bipush a)),
  (17, 4, fun _ a => (.sipush a)),
  (18, 1, fun a _ => (.ldc a)),
  (19, 3, fun a _ => (.ldc_w a)),
  (20, 3, fun a _ => (.ldc2_w a)),
  (21, 1, fun a _ => (.iload a)),
  (22, 1, fun a _ => (.lload a)),
  (25, 1, fun a _ => (.aload a)),
  (26, 0, fun _ _ => (.iload_n 0)),
  (27, 0, fun _ _ => (.iload_n 1)),
  (28, 0, fun _ _ => (.iload_n 2)),
  (29, 0, fun _ _ => (.iload_n 3)),
  (30, 0, fun _ _ => (.lload_n 0)),
  (31, 0, fun _ _ => (.lload_n 1)),
  (32, 0, fun _ _ => (.lload_n 2)),
  (33, 0, fun _ _ => (.lload_n 3)),
  (42, 0, fun _ _ => (.aload_n 0)),
  (43, 0, fun _ _ => (.aload_n 1)),
  (44, 0, fun _ _ => (.aload_n 2)),
  (45, 0, fun _ _ => (.aload_n 3)),
  (46, 0, fun _ _ => .iaload),
  (47, 0, fun _ _ => .laload),
  (50, 0, fun _ _ => .aaload),
  (51, 0, fun _ _ => .baload),
  (54, 1, fun a _ => (.istore a)),
  (55, 1, fun a _ => (.lstore a)),
  (58, 1, fun a _ => (.astore a)),
  (59, 0, fun _ _ => (.istore_n 0)),
  (60, 0, fun _ _ => (.istore_n 1)),
  (61, 0, fun _ _ => (.istore_n 2)),
  (62, 0, fun _ _ => (.istore_n 3)),
  (63, 0, fun _ _ => (.lstore_n 0)),
  (64, 0, fun _ _ => (.lstore_n 1)),
  (65, 0, fun _ _ => (.lstore_n 2)),
  (66, 0, fun _ _ => (.lstore_n 3)),
  (75, 0, fun _ _ => (.astore_n 0)),
  (76, 0, fun _ _ => (.astore_n 1)),
  (77, 0, fun _ _ => (.astore_n 2)),
  (78, 0, fun _ _ => (.astore_n 3)),
  (79, 0, fun _ _ => .iastore),
  (80, 0, fun _ _ => .lastore),
  (83, 0, fun _ _ => .aastore),
  (84, 0, fun _ _ => .bastore),
  (87, 0, fun _ _ => .pop),
  (89, 0, fun _ _ => .dup),
  (92, 0, fun _ _ => .dup2),
  (96, 0, fun _ _ => .iadd),
  (97, 0, fun _ _ => .ladd),
  (100, 0, fun _ _ => .isub),
  (101, 0, fun _ _ => .lsub),
  (104, 0, fun _ _ => .imul),
  (105, 0, fun _ _ => .lmul),
  (108, 0, fun _ _ => .idiv),
  (109, 0, fun _ _ => .ldiv),
  (112, 0, fun _ _ => .irem),
  (113, 0, fun _ _ => .lrem),
  (116, 0, fun _ _ => .ineg),
  (120, 0, fun _ _ => .ishl),
  (121, 0, fun _ _ => .lshl),
  (122, 0, fun _ _ => .ishr),
  (124, 0, fun _ _ => .iushr),
  (126, 0, fun _ _ => .iand),
  (127, 0, fun _ _ => .land),
  (128, 0, fun _ _ => .ior),
  (129, 0, fun _ _ => .lor),
  (130, 0, fun _ _ => .ixor),
  (132, 5, fun a b => (.iinc a b)),
  (133, 0, fun _ _ => .i2l),
  (136, 0, fun _ _ => .l2i),
  (145, 0, fun _ _ => .i2b),
  (146, 0, fun _ _ => .i2c),
  (148, 0, fun _ _ => .lcmp),
  (153, 4, fun _ a => (.ifCond .eq a)),
  (154, 4, fun _ a => (.ifCond .ne a)),
  (155, 4, fun _ a => (.ifCond .lt a)),
  (156, 4, fun _ a => (.ifCond .ge a)),
  (157, 4, fun _ a => (.ifCond .gt a)),
  (158, 4, fun _ a => (.ifCond .le a)),
  (159, 4, fun _ a => (.if_icmp .eq a)),
  (160, 4, fun _ a => (.if_icmp .ne a)),
  (161, 4, fun _ a => (.if_icmp .lt a)),
  (162, 4, fun _ a => (.if_icmp .ge a)),
  (163, 4, fun _ a => (.if_icmp .gt a)),
  (164, 4, fun _ a => (.if_icmp .le a)),
  (167, 4, fun _ a => (.goto a)),
  (172, 0, fun _ _ => .ireturn),
  (173, 0, fun _ _ => .lreturn),
  (176, 0, fun _ _ => .areturn),
  (177, 0, fun _ _ => .return_),
  (178, 3, fun a _ => (.getstatic a)),
  (180, 3, fun a _ => (.getfield a)),
  (181, 3, fun a _ => (.putfield a)),
  (182, 3, fun a _ => (.invokevirtual a)),
  (183, 3, fun a _ => (.invokespecial a)),
  (184, 3, fun a _ => (.invokestatic a)),
  (187, 3, fun a _ => (.new a)),
  (189, 3, fun a _ => (.anewarray a)),
  (190, 0, fun _ _ => .arraylength),
  (191, 0, fun _ _ => .athrow),
  (198, 4, fun _ a => (.ifnull a)),
  (199, 4, fun _ a => (.ifnonnull a))]
def am_Di (k : Nat) : Nat := bif Nat.blt k 92 then (bif Nat.blt k 43 then (bif Nat.blt k 19 then (bif Nat.blt k 7 then (bif Nat.blt k 4 then (bif Nat.blt k 2 then (0) else (bif Nat.blt k 3 then (1) else (2))) else (bif Nat.blt k 5 then (3) else (bif Nat.blt k 6 then (4) else (5)))) else (bif Nat.blt k 10 then (bif Nat.blt k 8 then (6) else (bif Nat.blt k 9 then (7) else (8))) else (bif Nat.blt k 17 then (bif Nat.blt k 16 then (9) else (10)) else (bif Nat.blt k 18 then (11) else (12))))) else (bif Nat.blt k 28 then (bif Nat.blt k 22 then (bif Nat.blt k 20 then (13) else (bif Nat.blt k 21 then (14) else (15))) else (bif Nat.blt k 26 then (bif Nat.blt k 25 then (16) else (17)) else (bif Nat.blt k 27 then (18) else (19)))) else (bif Nat.blt k 31 then (bif Nat.blt k 29 then (20) else (bif Nat.blt k 30 then (21) else (22))) else (bif Nat.blt k 33 then (bif Nat.blt k 32 then (23) else (24)) else (bif Nat.blt k 42 then (25) else (26)))))) else (bif Nat.blt k 63 then (bif Nat.blt k 54 then (bif Nat.blt k 46 then (bif Nat.blt k 44 then (27) else (bif Nat.blt k 45 then (28) else (29))) else (bif Nat.blt k 50 then (bif Nat.blt k 47 then (30) else (31)) else (bif Nat.blt k 51 then (32) else (33)))) else (bif Nat.blt k 59 then (bif Nat.blt k 55 then (34) else (bif Nat.blt k 58 then (35) else (36))) else (bif Nat.blt k 61 then (bif Nat.blt k 60 then (37) else (38)) else (bif Nat.blt k 62 then (39) else (40))))) else (bif Nat.blt k 78 then (bif Nat.blt k 66 then (bif Nat.blt k 64 then (41) else (bif Nat.blt k 65 then (42) else (43))) else (bif Nat.blt k 76 then (bif Nat.blt k 75 then (44) else (45)) else (bif Nat.blt k 77 then (46) else (47)))) else (bif Nat.blt k 83 then (bif Nat.blt k 79 then (48) else (bif Nat.blt k 80 then (49) else (50))) else (bif Nat.blt k 87 then (bif Nat.blt k 84 then (51) else (52)) else (bif Nat.blt k 89 then (53) else (54))))))) else (bif Nat.blt k 154 then (bif Nat.blt k 122 then (bif Nat.blt k 108 then (bif Nat.blt k 100 then (bif Nat.blt k 96 then (55) else (bif Nat.blt k 97 then (56) else (57))) else (bif Nat.blt k 104 then (bif Nat.blt k 101 then (58) else (59)) else (bif Nat.blt k 105 then (60) else (61)))) else (bif Nat.blt k 113 then (bif Nat.blt k 109 then (62) else (bif Nat.blt k 112 then (63) else (64))) else (bif Nat.blt k 120 then (bif Nat.blt k 116 then (65) else (66)) else (bif Nat.blt k 121 then (67) else (68))))) else (bif Nat.blt k 132 then (bif Nat.blt k 127 then (bif Nat.blt k 124 then (69) else (bif Nat.blt k 126 then (70) else (71))) else (bif Nat.blt k 129 then (bif Nat.blt k 128 then (72) else (73)) else (bif Nat.blt k 130 then (74) else (75)))) else (bif Nat.blt k 145 then (bif Nat.blt k 133 then (76) else (bif Nat.blt k 136 then (77) else (78))) else (bif Nat.blt k 148 then (bif Nat.blt k 146 then (79) else (80)) else (bif Nat.blt k 153 then (81) else (82)))))) else (bif Nat.blt k 176 then (bif Nat.blt k 161 then (bif Nat.blt k 157 then (bif Nat.blt k 155 then (83) else (bif Nat.blt k 156 then (84) else (85))) else (bif Nat.blt k 159 then (bif Nat.blt k 158 then (86) else (87)) else (bif Nat.blt k 160 then (88) else (89)))) else (bif Nat.blt k 164 then (bif Nat.blt k 162 then (90) else (bif Nat.blt k 163 then (91) else (92))) else (bif Nat.blt k 172 then (bif Nat.blt k 167 then (93) else (94)) else (bif Nat.blt k 173 then (95) else (96))))) else (bif Nat.blt k 184 then (bif Nat.blt k 180 then (bif Nat.blt k 177 then (97) else (bif Nat.blt k 178 then (98) else (99))) else (bif Nat.blt k 182 then (bif Nat.blt k 181 then (100) else (101)) else (bif Nat.blt k 183 then (102) else (103)))) else (bif Nat.blt k 190 then (bif Nat.blt k 187 then (104) else (bif Nat.blt k 189 then (105) else (106))) else (bif Nat.blt k 198 then (bif Nat.blt k 191 then (107) else (108)) else (bif Nat.blt k 199 then (109) else (110)))))))
def am_dR (kd : Nat) (f : Nat → Int → Instr) : Decoder Instr := match kd with
  | 0 => pure (f 0 0)
  | 1 => do pure (f (← Reader.u1) 0)
  | 2 => do pure (f 0 (← Reader.s1))
  | 3 => do pure (f (← Reader.u2) 0)
  | 4 => do pure (f 0 (← Reader.s2))
  | _ => do pure (f (← Reader.u1) (← Reader.s1))
def am_dA (kd : Nat) (f : Nat → Int → Instr) (s : List UInt8) : Option (Instr × Nat) := match kd, s with
  | 0, _ => some (f 0 0, 1)
  | 1, b :: _ => some (f b.toNat 0, 2)
  | 2, b :: _ => some (f 0 (Reader.signed 8 b.toNat), 2)
  | 3, b :: b' :: _ => some (f (b.toNat * 256 + b'.toNat) 0, 3)
  | 4, b :: b' :: _ => some (f 0 (Reader.signed 16 (b.toNat * 256 + b'.toNat)), 3)
  | 5, b :: b' :: _ => some (f b.toNat (Reader.signed 8 b'.toNat), 3)
  | _, _ => none
def am_dS (s : List UInt8) : Option (Instr × Nat) := match s with
  | [] => none
  | b :: s1 => match am_Dl[am_Di b.toNat]? with
    | none => none
    | some q => bif Nat.beq q.1 b.toNat then am_dA q.2.1 q.2.2 s1 else none
def am_dq (c : ByteArray) (pc : Nat) (s : List UInt8) (x : Instr × Nat) : Bool := match am_dS s with
  | some z => decide (z = x)
  | none => decide (decode c pc = .ok x)
def am_ck (y pc : Nat) (s : List UInt8) : Bool := match am_code y pc with
  | none => true
  | some e => Nat.beq e.2.1 (am_ln e.1 e.2.1) && am_dq (am_by y) pc s (e.1, e.2.1) && am_chE y (am_in y).1 pc e
def am_wk (y : Nat) : List UInt8 → Nat → Bool
  | [], _ => true
  | b :: s, pc => am_ck y pc (b :: s) && am_wk y s (pc + 1)
def am_wkM (y : Nat) : Bool := Nat.ble (am_bd y) (am_by y).data.toList.length && am_wk y (am_by y).data.toList 0
theorem am_rb {α β : Type} (a : Decoder α) (f : α → Decoder β) {c : ByteArray} {p p' : Nat} {v : α} (e : Reader.runAt a c p = .ok (v, p')) : Reader.runAt (bind a f) c p = Reader.runAt (f v) c p' := by
  show Except.bind (Reader.runAt a c p) (fun x => Reader.runAt (f x.1) c x.2) = _
  rw [e]
  rfl
theorem am_rmap {α β : Type} (a : Decoder α) (f : α → β) {c : ByteArray} {p p' : Nat} {v : α} (e : Reader.runAt a c p = .ok (v, p')) : Reader.runAt (f <$> a) c p = .ok (f v, p') := by
  show Except.bind (Reader.runAt a c p) (fun x => .ok (f x.1, x.2)) = _
  rw [e]
  rfl
theorem am_u1 {c : ByteArray} {pc : Nat} (h : pc < c.size) : Reader.runAt (Reader.u1 : Decoder Nat) c pc = .ok ((c[pc]'h).toNat, pc + 1) := by
  show ((dite (pc < c.size) (fun h => (do set (pc + 1); pure (c[pc]'h).toNat : Decoder Nat)) (fun _ => throw (HasTruncated.truncated pc))) c) pc = _
  rw [dif_pos h]
  rfl
theorem am_at8 {c : ByteArray} {pc : Nat} {b : UInt8} {t : List UInt8} (hs : c.data.toList.drop pc = b :: t) : Reader.runAt (Reader.u1 : Decoder Nat) c pc = .ok (b.toNat, pc + 1) ∧ c.data.toList.drop (pc + 1) = t := by
  have hl : pc < c.data.toList.length := by
    rcases Nat.lt_or_ge pc c.data.toList.length with q | q
    · exact q
    · rw [List.drop_eq_nil_of_le q] at hs
      cases hs
  rw [List.drop_eq_getElem_cons hl] at hs
  injection hs with e1 e2
  refine ⟨?_, e2⟩
  obtain ⟨⟨l⟩⟩ := c
  rw [am_u1 (c := ⟨⟨l⟩⟩) hl]
  show Except.ok ((l[pc]'hl).toNat, pc + 1) = _
  rw [show l[pc]'hl = b from e1]
theorem am_u2r {c : ByteArray} {pc : Nat} {b b' : UInt8} {t : List UInt8} (hs : c.data.toList.drop pc = b :: b' :: t) : Reader.runAt (Reader.u2 : Decoder Nat) c pc = .ok (b.toNat * 256 + b'.toNat, pc + 2) := by
  obtain ⟨e1, h1⟩ := am_at8 hs
  obtain ⟨e2, -⟩ := am_at8 h1
  unfold Reader.u2
  rw [am_rb _ _ e1, am_rb _ _ e2]
  rfl
set_option maxRecDepth 100000 in
theorem am_dF : ∃ F : Nat → Nat → Decoder Instr, (∀ pc, Decoder.instr pc = bind Reader.u1 (F pc)) ∧ ∀ x ∈ am_Dl, ∀ pc, F pc x.1 = am_dR x.2.1 x.2.2 := ⟨_, fun pc => rfl, List.forall_mem_cons.2 ⟨fun _ => rfl, List.forall_mem_cons.2 ⟨fun _ => rfl, List.forall_mem_cons.2 ⟨fun _ => rfl, List.forall_mem_cons.2 ⟨fun _ => rfl, List.forall_mem_cons.2 ⟨fun _ => rfl, List.forall_mem_cons.2 ⟨fun _ => rfl, List.forall_mem_cons.2 ⟨fun _ => rfl, List.forall_mem_cons.2 ⟨fun _ => rfl, List.forall_mem_cons.2 ⟨fun _ => rfl, List.forall_mem_cons.2 ⟨fun _ => rfl, List.forall_mem_cons.2 ⟨fun _ => rfl, List.forall_mem_cons.2 ⟨fun _ => rfl, List.forall_mem_cons.2 ⟨fun _ => rfl, List.forall_mem_cons.2 ⟨fun _ => rfl, List.forall_mem_cons.2 ⟨fun _ => rfl, List.forall_mem_cons.2 ⟨fun _ => rfl, List.forall_mem_cons.2 ⟨fun _ => rfl, List.forall_mem_cons.2 ⟨fun _ => rfl, List.forall_mem_cons.2 ⟨fun _ => rfl, List.forall_mem_cons.2 ⟨fun _ => rfl, List.forall_mem_cons.2 ⟨fun _ => rfl, List.forall_mem_cons.2 ⟨fun _ => rfl, List.forall_mem_cons.2 ⟨fun _ => rfl, List.forall_mem_cons.2 ⟨fun _ => rfl, List.forall_mem_cons.2 ⟨fun _ => rfl, List.forall_mem_cons.2 ⟨fun _ => rfl, List.forall_mem_cons.2 ⟨fun _ => rfl, List.forall_mem_cons.2 ⟨fun _ => rfl, List.forall_mem_cons.2 ⟨fun _ => rfl, List.forall_mem_cons.2 ⟨fun _ => rfl, List.forall_mem_cons.2 ⟨fun _ => rfl, List.forall_mem_cons.2 ⟨fun _ => rfl, List.forall_mem_cons.2 ⟨fun _ => rfl, List.forall_mem_cons.2 ⟨fun _ => rfl, List.forall_mem_cons.2 ⟨fun _ => rfl, List.forall_mem_cons.2 ⟨fun _ => rfl, List.forall_mem_cons.2 ⟨fun _ => rfl, List.forall_mem_cons.2 ⟨fun _ => rfl, List.forall_mem_cons.2 ⟨fun _ => rfl, List.forall_mem_cons.2 ⟨fun _ => rfl, List.forall_mem_cons.2 ⟨fun _ => rfl, List.forall_mem_cons.2 ⟨fun _ => rfl, List.forall_mem_cons.2 ⟨fun _ => rfl, List.forall_mem_cons.2 ⟨fun _ => rfl, List.forall_mem_cons.2 ⟨fun _ => rfl, List.forall_mem_cons.2 ⟨fun _ => rfl, List.forall_mem_cons.2 ⟨fun _ => rfl, List.forall_mem_cons.2 ⟨fun _ => rfl, List.forall_mem_cons.2 ⟨fun _ => rfl, List.forall_mem_cons.2 ⟨fun _ => rfl, List.forall_mem_cons.2 ⟨fun _ => rfl, List.forall_mem_cons.2 ⟨fun _ => rfl, List.forall_mem_cons.2 ⟨fun _ => rfl, List.forall_mem_cons.2 ⟨fun _ => rfl, List.forall_mem_cons.2 ⟨fun _ => rfl, List.forall_mem_cons.2 ⟨fun _ => rfl, List.forall_mem_cons.2 ⟨fun _ => rfl, List.forall_mem_cons.2 ⟨fun _ => rfl, List.forall_mem_cons.2 ⟨fun _ => rfl, List.forall_mem_cons.2 ⟨fun _ => rfl, List.forall_mem_cons.2 ⟨fun _ => rfl, List.forall_mem_cons.2 ⟨fun _ => rfl, List.forall_mem_cons.2 ⟨fun _ => rfl, List.forall_mem_cons.2 ⟨fun _ => rfl, List.forall_mem_cons.2 ⟨fun _ => rfl, List.forall_mem_cons.2 ⟨fun _ => rfl, List.forall_mem_cons.2 ⟨fun _ => rfl, List.forall_mem_cons.2 ⟨fun _ => rfl, List.forall_mem_cons.2 ⟨fun _ => rfl, List.forall_mem_cons.2 ⟨fun _ => rfl, List.forall_mem_cons.2 ⟨fun _ => rfl, List.forall_mem_cons.2 ⟨fun _ => rfl, List.forall_mem_cons.2 ⟨fun _ => rfl, List.forall_mem_cons.2 ⟨fun _ => rfl, List.forall_mem_cons.2 ⟨fun _ => rfl, List.forall_mem_cons.2 ⟨fun _ => rfl, List.forall_mem_cons.2 ⟨fun _ => rfl, List.forall_mem_cons.2 ⟨fun _ => rfl, List.forall_mem_cons.2 ⟨fun _ => rfl, List.forall_mem_cons.2 ⟨fun _ => rfl, List.forall_mem_cons.2 ⟨fun _ => rfl, List.forall_mem_cons.2 ⟨fun _ => rfl, List.forall_mem_cons.2 ⟨fun _ => rfl, List.forall_mem_cons.2 ⟨fun _ => rfl, List.forall_mem_cons.2 ⟨fun _ => rfl, List.forall_mem_cons.2 ⟨fun _ => rfl, List.forall_mem_cons.2 ⟨fun _ => rfl, List.forall_mem_cons.2 ⟨fun _ => rfl, List.forall_mem_cons.2 ⟨fun _ => rfl, List.forall_mem_cons.2 ⟨fun _ => rfl, List.forall_mem_cons.2 ⟨fun _ => rfl, List.forall_mem_cons.2 ⟨fun _ => rfl, List.forall_mem_cons.2 ⟨fun _ => rfl, List.forall_mem_cons.2 ⟨fun _ => rfl, List.forall_mem_cons.2 ⟨fun _ => rfl, List.forall_mem_cons.2 ⟨fun _ => rfl, List.forall_mem_cons.2 ⟨fun _ => rfl, List.forall_mem_cons.2 ⟨fun _ => rfl, List.forall_mem_cons.2 ⟨fun _ => rfl, List.forall_mem_cons.2 ⟨fun _ => rfl, List.forall_mem_cons.2 ⟨fun _ => rfl, List.forall_mem_cons.2 ⟨fun _ => rfl, List.forall_mem_cons.2 ⟨fun _ => rfl, List.forall_mem_cons.2 ⟨fun _ => rfl, List.forall_mem_cons.2 ⟨fun _ => rfl, List.forall_mem_cons.2 ⟨fun _ => rfl, List.forall_mem_cons.2 ⟨fun _ => rfl, List.forall_mem_cons.2 ⟨fun _ => rfl, List.forall_mem_cons.2 ⟨fun _ => rfl, List.forall_mem_cons.2 ⟨fun _ => rfl, List.forall_mem_cons.2 ⟨fun _ => rfl, fun _ hx => (by cases hx)⟩⟩⟩⟩⟩⟩⟩⟩⟩⟩⟩⟩⟩⟩⟩⟩⟩⟩⟩⟩⟩⟩⟩⟩⟩⟩⟩⟩⟩⟩⟩⟩⟩⟩⟩⟩⟩⟩⟩⟩⟩⟩⟩⟩⟩⟩⟩⟩⟩⟩⟩⟩⟩⟩⟩⟩⟩⟩⟩⟩⟩⟩⟩⟩⟩⟩⟩⟩⟩⟩⟩⟩⟩⟩⟩⟩⟩⟩⟩⟩⟩⟩⟩⟩⟩⟩⟩⟩⟩⟩⟩⟩⟩⟩⟩⟩⟩⟩⟩⟩⟩⟩⟩⟩⟩⟩⟩⟩⟩⟩⟩⟩
theorem am_dec {c : ByteArray} {pc n : Nat} {i : Instr} (e : Reader.runAt (Decoder.instr pc) c pc = .ok (i, pc + n)) : decode c pc = .ok (i, n) := by
  unfold decode
  rw [e]
  show Except.ok (i, pc + n - pc) = _
  rw [Nat.add_sub_cancel_left]
theorem am_dRA {c : ByteArray} {pc kd : Nat} {f : Nat → Int → Instr} {s : List UInt8} {i : Instr} {n : Nat} (hk : kd < 6) (hs : c.data.toList.drop (pc + 1) = s) (h : am_dA kd f s = some (i, n)) : Reader.runAt (am_dR kd f) c (pc + 1) = .ok (i, pc + n) := by
  have hk : kd = 0 ∨ kd = 1 ∨ kd = 2 ∨ kd = 3 ∨ kd = 4 ∨ kd = 5 := by omega
  rcases hk with rfl | rfl | rfl | rfl | rfl | rfl
  · cases h
    rfl
  · rcases s with _ | ⟨b, s⟩
    · cases h
    · cases h
      exact am_rb _ _ (am_at8 hs).1
  · rcases s with _ | ⟨b, s⟩
    · cases h
    · cases h
      exact am_rb _ _ (am_rmap _ _ (am_at8 hs).1)
  · rcases s with _ | ⟨b, _ | ⟨b', s⟩⟩
    · cases h
    · cases h
    · cases h
      exact am_rb _ _ (am_u2r hs)
  · rcases s with _ | ⟨b, _ | ⟨b', s⟩⟩
    · cases h
    · cases h
    · cases h
      exact am_rb _ _ (am_rmap _ _ (am_u2r hs))
  · rcases s with _ | ⟨b, _ | ⟨b', s⟩⟩
    · cases h
    · cases h
    · cases h
      obtain ⟨e1, h1⟩ := am_at8 hs
      exact (am_rb _ _ e1).trans (am_rb _ _ (am_rmap _ _ (am_at8 h1).1))
theorem am_Dlk : ∀ x ∈ am_Dl, x.2.1 < 6 := by
  have h : (am_Dl.all fun x => Nat.blt x.2.1 6) = true := by decide +kernel
  exact fun x hx => Nat.le_of_ble_eq_true (List.all_eq_true.1 h x hx)
theorem am_dS_ok {c : ByteArray} {pc : Nat} {s : List UInt8} {x : Instr × Nat} (hs : c.data.toList.drop pc = s) (h : am_dS s = some x) : decode c pc = .ok x := by
  obtain ⟨i, n⟩ := x
  rcases s with _ | ⟨b, s1⟩
  · cases h
  · unfold am_dS at h
    dsimp only at h
    split at h
    · cases h
    · rename_i q hq
      rw [cond_eq_ite] at h
      split at h
      · rename_i hk
        obtain ⟨F, hF, hA⟩ := am_dF
        obtain ⟨e1, h1⟩ := am_at8 hs
        have mem := List.mem_of_getElem? hq
        have e2 : F pc b.toNat = am_dR q.2.1 q.2.2 := by
          rw [← Nat.eq_of_beq_eq_true hk]
          exact hA q mem pc
        refine am_dec ?_
        rw [hF, am_rb _ _ e1, e2]
        exact am_dRA (am_Dlk q mem) h1 h
      · cases h
theorem am_ck_ok {y pc : Nat} {s : List UInt8} (hs : (am_by y).data.toList.drop pc = s) (h : am_ck y pc s = true) : am_chP y pc = true := by
  unfold am_ck at h
  unfold am_chP
  split at h
  · rename_i e
    rw [e]
  · rename_i e he
    rw [he]
    simp only [Bool.and_eq_true] at h ⊢
    refine ⟨⟨h.1.1, ?_⟩, h.2⟩
    have q := h.1.2
    unfold am_dq at q
    split at q
    · rename_i z hz
      exact decide_eq_true ((am_dS_ok hs hz).trans (congrArg Except.ok (of_decide_eq_true q)))
    · exact q
theorem am_wk_ok {y : Nat} : ∀ (s : List UInt8) (pc : Nat), (am_by y).data.toList.drop pc = s → am_wk y s pc = true → ∀ j, j < s.length → am_chP y (pc + j) = true
  | [], pc, hs, h, j, hj => absurd hj (Nat.not_lt_zero j)
  | b :: s, pc, hs, h, j, hj => by
    have h := (Bool.and_eq_true _ _ ▸ h)
    rcases j with _ | j
    · exact am_ck_ok hs h.1
    · have r := am_wk_ok s (pc + 1) (am_at8 hs).2 h.2 j (Nat.lt_of_succ_lt_succ hj)
      rwa [show pc + 1 + j = pc + (j + 1) by omega] at r
theorem am_wkM_ok {y pc : Nat} (h : am_wkM y = true) (hp : pc < am_bd y) : am_chP y pc = true := by
  have h := (Bool.and_eq_true _ _ ▸ h)
  have r := am_wk_ok (y := y) _ 0 rfl h.2 pc (Nat.lt_of_lt_of_le hp (Nat.le_of_ble_eq_true h.1))
  rwa [Nat.zero_add] at r
