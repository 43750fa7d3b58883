/-! the tables against the bytes and the words -/
def am_TT (ci : Nat) : u_T := match vwCl[ci]? with
  | some r => r.2.1
  | none => fun _ => ("", "", "", false)
/-- which method a call's entry means -/
def am_cnm (z : Nat) : MethodName := bif Nat.beq z 1000 then Lib.objectInit else bif Nat.beq z 1001 then arraycopyName else bif Nat.beq z 1002 then ⟨"PoetsBookModel$Stop", "<init>", "()V"⟩ else bif Nat.beq z 1003 then ⟨"java/lang/String", "length", "()I"⟩ else bif Nat.beq z 1004 then ⟨"java/lang/String", "charAt", "(I)C"⟩ else am_nm z
/-- what a word of the pools says -/
def am_say (q : Nat × Nat × Nat × Nat × Nat) : Cond := match q.1 with
  | 1 => .fieldLink (am_cn q.2.1) q.2.2.1 (am_TT q.2.2.2.1 q.2.2.2.2).1 (am_TT q.2.2.2.1 q.2.2.2.2).2.1 (am_TT q.2.2.2.1 q.2.2.2.2).2.2.1
  | 2 => .classLink (am_cn q.2.1) q.2.2.1 (am_cn q.2.2.2.1)
  | 3 => .constant (am_cn q.2.1) q.2.2.1 (Int32.ofNat q.2.2.2.1)
  | 7 => .constantLong (am_cn q.2.1) q.2.2.1 (Int64.ofNat q.2.2.2.1)
  | 4 => .methodLink (am_cn q.2.1) q.2.2.1 (am_cnm q.2.2.2.1)
  | 5 => .methodLinkNest (am_cn q.2.1) q.2.2.1 (am_cnm q.2.2.2.1) "PoetsBook"
  | 6 => .fieldLink (am_cn q.2.1) q.2.2.1 (am_sts q.2.2.2.1).1 (am_sts q.2.2.2.1).2.1 (am_sts q.2.2.2.1).2.2
  | _ => .tt
def am_q (e : am_E) (k own idx a b : Nat) : Bool := decide (am_pl e.2.2.2.2.2 = (k, own, idx, a, b))
def am_chE (y own pc : Nat) (e : am_E) : Bool := match e.1 with
  | .ifCond _ off => decide ((pc : Int) + off = (e.2.2.1.toNat : Int))
  | .if_icmp _ off => decide ((pc : Int) + off = (e.2.2.1.toNat : Int))
  | .ifnull off => decide ((pc : Int) + off = (e.2.2.1.toNat : Int))
  | .ifnonnull off => decide ((pc : Int) + off = (e.2.2.1.toNat : Int))
  | .goto off => decide ((pc : Int) + off = (e.2.2.1.toNat : Int))
  | .tableswitch d _ _ offs => decide (0 ≤ (pc : Int) + d) && offs.toList.all (fun o => decide (0 ≤ (pc : Int) + o))
  | .getfield idx => Nat.blt e.2.2.2.1 14 && Nat.blt e.2.2.2.2.1 (am_N e.2.2.2.1) && am_q e 1 own idx e.2.2.2.1 e.2.2.2.2.1
  | .putfield idx => Nat.blt e.2.2.2.1 14 && Nat.blt e.2.2.2.2.1 (am_N e.2.2.2.1) && am_q e 1 own idx e.2.2.2.1 e.2.2.2.2.1
    && (bif (am_TT e.2.2.2.1 e.2.2.2.2.1).2.2.2 then Nat.beq (am_in y).2.2.2 2 && Nat.beq e.2.2.2.1 own && Nat.blt own 12 || Nat.beq (am_in y).2.2.2 2 && Nat.beq e.2.2.2.1 13 && Nat.beq own 13 else true)
  | .new idx => Nat.blt e.2.2.2.1 14 && am_q e 2 own idx e.2.2.2.1 0
  | .anewarray idx => Nat.ble 4 e.2.2.2.1 && am_isA e.2.2.2.1 && am_q e 2 own idx (e.2.2.2.1 - 4) 0
  | .newarray t => Nat.blt e.2.2.2.1 4 && decide (newarray.typeOf t = am_aty e.2.2.2.1)
  | .ldc idx => bif Nat.beq e.2.2.2.2.1 0 then am_q e 3 own idx e.2.2.2.1 0 else true
  | .ldc_w idx => bif Nat.beq e.2.2.2.2.1 0 then am_q e 3 own idx e.2.2.2.1 0 else true
  | .ldc2_w idx => am_q e 7 own idx e.2.2.2.1 0
  | .getstatic idx => Nat.ble 1 e.2.2.2.1 && Nat.ble e.2.2.2.1 6 && am_q e 6 own idx e.2.2.2.1 0
  | .invokestatic idx => (Nat.beq e.2.2.2.1 1001 && am_q e 4 own idx e.2.2.2.1 0) || (Nat.blt e.2.2.2.1 am_NM && Nat.beq (am_in e.2.2.2.1).2.2.2 1 && (bif Nat.beq e.2.2.2.2.1 1 then am_q e 5 own idx e.2.2.2.1 0 else am_q e 4 own idx e.2.2.2.1 0))
  | .invokevirtual idx => Nat.beq e.2.2.2.1 1003 || Nat.beq e.2.2.2.1 1004 || (Nat.blt e.2.2.2.1 am_NM && (Nat.beq (am_in e.2.2.2.1).2.2.2 0 || Nat.beq (am_in e.2.2.2.1).2.2.2 3) && am_q e 4 own idx e.2.2.2.1 0)
  | .invokespecial idx => ((Nat.beq e.2.2.2.1 1000 || Nat.beq e.2.2.2.1 1002) && am_q e 4 own idx e.2.2.2.1 0) || (Nat.blt e.2.2.2.1 am_NM && Nat.beq (am_in e.2.2.2.1).2.2.2 2 && (bif Nat.beq e.2.2.2.2.1 1 then am_q e 5 own idx e.2.2.2.1 0 else am_q e 4 own idx e.2.2.2.1 0))
  | _ => true
def am_ln (i : Instr) (n : Nat) : Nat := match i with
  | .tableswitch .. => n
  | .iload _ | .lload _ | .aload _ | .istore _ | .lstore _ | .astore _ | .bipush _ | .ldc _ | .newarray _ => 2
  | .sipush _ | .ldc_w _ | .ldc2_w _ | .getfield _ | .putfield _ | .getstatic _ | .new _ | .anewarray _ | .invokestatic _ | .invokevirtual _ | .invokespecial _ | .ifCond .. | .if_icmp .. | .ifnull _ | .ifnonnull _ | .goto _ | .iinc .. => 3
  | _ => 1
def am_chP (y pc : Nat) : Bool := match am_code y pc with
  | none => true
  | some e => Nat.beq e.2.1 (am_ln e.1 e.2.1) && decide (decode (am_by y) pc = .ok (e.1, e.2.1)) && am_chE y (am_in y).1 pc e
/-- a method's own numbers -/
def am_chM (y : Nat) : Bool :=
  Nat.blt (am_wd y).1 am_nw && Nat.blt (am_wd y).2.1 am_nw && Nat.blt (am_wd y).2.2.1 am_nw && Nat.blt (am_wd y).2.2.2 am_nw
  && (bif Nat.beq (am_in y).2.2.2 0 || Nat.beq (am_in y).2.2.2 3 then Nat.blt (am_in y).1 14 else true) && Nat.blt (am_in y).1 19
  && decide ((parseMethodDescriptor (am_nm y).desc).map (fun d => d.parameters.length) = some ((am_in y).2.1 - (bif Nat.beq (am_in y).2.2.2 1 then 0 else 1)))
  && (bif Nat.beq (am_in y).2.2.2 2 then decide (am_rt y = none) else true)
  && Nat.ble (am_in y).2.2.1 40 && Nat.ble (am_in y).2.2.2 3 && (bif Nat.beq (am_in y).2.2.2 1 then true else Nat.ble 1 (am_in y).2.1)
def am_cw (y : Nat) : Cond := bif Nat.beq (am_in y).2.2.2 3 then .codeWith (am_nm y) (am_by y) (am_in y).2.2.1 (am_rt y) (am_hh y) else .code (am_nm y) (am_by y) (am_in y).2.2.1 (am_rt y)
def am_kw (y : Nat) : Cond := bif Nat.beq (am_in y).2.2.2 1 then .static (am_nm y) else .instanceMethod (am_nm y)
def am_sw (y : Nat) : Cond := bif Nat.beq (am_in y).2.2.2 0 || Nat.beq (am_in y).2.2.2 3 then .selects (am_nm y).cls (am_nm y) (am_nm y) else am_wt (am_wd y).2.2.1
