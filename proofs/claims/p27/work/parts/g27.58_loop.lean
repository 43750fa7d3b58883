/-! THE CHECKER, 28: loops: what is noted of one, how it is come to and come back to -/
/-- a variable of a loop: 0 a local int, 1 a fixed place, 2 a local long; where; its bounds -/
abbrev cq_Vr : Type := Nat × Nat × Nat × Int × Int
/-- a note of a loop: variables, locals that may hold anything, what is written, relations, measure (variable, up), places beside -/
abbrev cq_Lp : Type := List cq_Vr × List Nat × cq_W × List cq_F × (Nat × Bool) × List (Nat × Nat)
def cq_vv (ls : List cq_A) (S : cq_S) (v : cq_Vr) : Option cq_A := match v.1 with
  | 0 => (match ls[v.2.1]? with
    | some a => bif Nat.beq a.1 1 then some a else none
    | none => none)
  | 1 => (match cq_tl (false, v.2.1) (cq_c (v.2.2.1 : Int)) S.T with
    | some a => bif Nat.beq a.1 1 then some a else none
    | none => none)
  | _ => (match ls[v.2.1]? with
    | some a => bif Nat.beq a.1 2 then some a else none
    | none => none)
def cq_vvs (ls : List cq_A) (S : cq_S) : List cq_Vr → Option (List cq_A)
  | [] => some []
  | v :: r => (match cq_vv ls S v, cq_vvs ls S r with
    | some a, some as => some (a :: as)
    | _, _ => none)
/-- places of variables and those beside -/
def cq_lpl (lp : cq_Lp) : List (cq_C × cq_F × cq_A) := ((lp.1.filter fun v => Nat.beq v.1 1).map fun v => ((false, v.2.1), cq_c (v.2.2.1 : Int), cq_u)) ++ lp.2.2.2.2.2.map fun q => ((false, q.1), cq_c (q.2 : Int), cq_u)
/-- stand-ins for the relations' codes -/
def cq_codE : Nat → List cq_A → List (Nat × cq_A)
  | _, [] => []
  | k, x :: ex => (2 * k, x) :: cq_codE (k + 1) ex
def cq_cod : Nat → List cq_A → List cq_A → List cq_A → List (Nat × cq_A)
  | k, [], _, ex => cq_codE k ex
  | k, a :: as, bs, ex => (match bs with
    | b :: bs' => (2 * k, a) :: (2 * k + 1, b) :: cq_cod (k + 1) as bs' ex
    | [] => cq_codE k ex)
def cq_ext (S : cq_S) : List (Nat × Nat) → Option (List cq_A)
  | [] => some []
  | q :: r => (match cq_tl (false, q.1) (cq_c (q.2 : Int)) S.T, cq_ext S r with
    | some a, some as => some (a :: as)
    | _, _ => none)
/-- the variables' new values -/
def cq_hv (n : Nat) : List cq_Vr → List cq_A
  | [] => []
  | v :: r => (bif Nat.beq v.1 2 then cq_l (cq_s n) else cq_i (cq_s n)) :: cq_hv (n + 1) r
def cq_fv (i n : Nat) : List cq_Vr → Option cq_A
  | [] => none
  | v :: r => bif Nat.beq v.1 0 && Nat.beq v.2.1 i then some (cq_i (cq_s n)) else bif Nat.beq v.1 2 && Nat.beq v.2.1 i then some (cq_l (cq_s n)) else cq_fv i (n + 1) r
def cq_lh (n : Nat) (lp : cq_Lp) : Nat → List cq_A → List cq_A
  | _, [] => []
  | i, a :: r => (match cq_fv i n lp.1 with
    | some b => b
    | none => bif cq_mem i lp.2.1 then cq_u else bif cq_sma n a then a else cq_u) :: cq_lh n lp (i + 1) r
def cq_hT (n : Nat) : List cq_Vr → List (cq_C × cq_F × cq_A)
  | [] => []
  | v :: r => bif Nat.beq v.1 1 then ((false, v.2.1), cq_c (v.2.2.1 : Int), cq_i (cq_s n)) :: cq_hT (n + 1) r else cq_hT (n + 1) r
def cq_hB (n : Nat) : List cq_Vr → cq_B
  | [] => []
  | v :: r => bif Nat.beq v.1 2 then cq_hB (n + 1) r else (n, v.2.2.2.1, v.2.2.2.2) :: cq_hB (n + 1) r
/-- do values lie within their variables' bounds -/
def cq_bv (P : cq_P) : List cq_Vr → List cq_A → Bool
  | [], [] => true
  | v :: vs, a :: as => (Nat.beq v.1 2 && Nat.beq a.1 2 || Nat.beq a.1 1 && !Nat.beq v.1 2 && cq_inE P a.2.1 v.2.2.2.1 v.2.2.2.2) && cq_bv P vs as
  | _, _ => false
def cq_rv (P : cq_P) (σ : List (Nat × cq_A)) (rs : List cq_F) : Bool := rs.all fun g => match cq_sf σ 10000 0 g with
  | some f => cq_en P f
  | none => false
def cq_smT (n : Nat) (e : cq_C × cq_F × cq_A) : Bool := cq_smc n e.1 && cq_sm n e.2.1 && cq_sma n e.2.2
/-- a place that is kept though its cell is written -/
def cq_kpl (lp : cq_Lp) (e : cq_C × cq_F × cq_A) : Bool := !e.1.1 && cq_k e.2.1 && lp.2.2.2.2.2.any fun q => Nat.beq q.1 e.1.2 && cq_ieq e.2.1.1 (q.2 : Int)
/-- the store at the loop's head -/
def cq_hS (lp : cq_Lp) (S : cq_S) (P : cq_P) : cq_S := cq_mk (S.n + lp.1.length) P S.N (S.K.filter fun e => Nat.blt e.1 S.n) S.W (cq_hT S.n lp.1 ++ S.T.filter fun e => (cq_tk lp.2.2.1 S e || cq_kpl lp e) && cq_smT S.n e) (S.L.filter fun e => cq_ol S e.1 && cq_smc S.n e.1 && cq_sm S.n e.2) S.M none S.ac S.al
/-- a record: place, first new symbol, depth, locals, stack, store, values at arrival, those beside, the note -/
abbrev cq_Rc : Type := Nat × Nat × Nat × List cq_A × List cq_A × cq_S × List cq_A × List cq_A × cq_Lp
/-- a value now against one at the head -/
def cq_lq1 (n : Nat) (cur : List cq_A) (a b : cq_A) : Bool := Nat.beq a.1 0 || (bif cq_sma n a then cq_aq a b else (match a.2.1.2 with
  | [(s, _)] => Nat.ble n s && cq_aq a (a.1, cq_s s, a.2.2) && (match cur[s - n]? with
    | some c => cq_aq c b && Nat.beq b.1 a.1 && (Nat.beq a.1 1 || Nat.beq a.1 2)
    | none => false)
  | _ => false))
def cq_lq (n : Nat) (cur : List cq_A) : List cq_A → List cq_A → Bool
  | [], [] => true
  | a :: as, b :: bs => cq_lq1 n cur a b && cq_lq n cur as bs
  | _, _ => false
/-- does a state, its places read ahead, meet a record -/
def cq_cks (R : cq_Rc) (ls st : List cq_A) (S1 : cq_S) (cur : List cq_A) : Bool := match R with
  | (_, n, _, ls0, st0, S0, arr, ext, lp) => cq_bv S1.P lp.1 cur && cq_rv S1.P (cq_cod 0 cur arr ext) lp.2.2.2.1 && arr.all (cq_sma n) && ext.all (cq_sma n) && cq_lq n cur ls0 ls && cq_lq n cur st0 st && S0.T.all (fun e => cq_smc n e.1 && cq_sm n e.2.1 && (match cq_tl e.1 e.2.1 S1.T with
    | some b => cq_lq1 n cur e.2.2 b
    | none => false)) && S0.L.all (fun e => cq_smc n e.1 && cq_sm n e.2 && (match cq_ll e.1 S1.L with
    | some f => cq_fe e.2 f
    | none => false)) && S0.K.all (fun e => Nat.blt e.1 n && (match cq_kl e.1 S1.K with
    | some k => Nat.beq k.1 e.2.1 && Nat.beq k.2.1 e.2.2.1 && Nat.beq k.2.2 e.2.2.2
    | none => false)) && Nat.ble S1.ac S0.ac && Nat.ble S1.al S0.al
/-- a record speaks of its own symbols alone -/
def cq_wfR (R : cq_Rc) : Bool := match R with
  | (_, n, _, ls0, st0, S0, arr, ext, lp) => ls0.all (cq_sma S0.n) && st0.all (cq_sma S0.n) && S0.T.all (cq_smT S0.n) && S0.L.all (fun e => cq_smc S0.n e.1 && cq_sm S0.n e.2) && S0.K.all (fun e => Nat.blt e.1 S0.n) && lp.2.2.2.1.all (cq_sm 10000) && (cq_cod 0 (cq_hv n lp.1) arr ext).all (fun q => cq_sma S0.n q.2) && Nat.beq S0.n (n + lp.1.length)
def cq_arr (lp : cq_Lp) (Z : cq_Z) : Option (cq_Rc × cq_Z) := match Z with
  | (y, pc, ls, st, fr, db, S) => bif fr.isEmpty && S.U.isNone then (match cq_pl (cq_lpl lp) S with
      | none => none
      | some S1 => (match cq_vvs ls S1 lp.1, cq_ext S1 lp.2.2.2.2.2 with
        | some arr, some ext => (match cq_shG (cq_cod 0 (cq_hv S1.n lp.1) arr ext) 10000 0 lp.2.2.2.1 (cq_hB S1.n lp.1 ++ S1.P.1, S1.P.2) with
            | some (some P) => bif cq_cks (pc, S1.n, db, cq_lh S1.n lp 0 ls, st, cq_hS lp S1 P, arr, ext, lp) ls st S1 arr && cq_wfR (pc, S1.n, db, cq_lh S1.n lp 0 ls, st, cq_hS lp S1 P, arr, ext, lp) then some ((pc, S1.n, db, cq_lh S1.n lp 0 ls, st, cq_hS lp S1 P, arr, ext, lp), (y, pc, cq_lh S1.n lp 0 ls, st, [], db, cq_hS lp S1 P)) else none
            | _ => none)
        | _, _ => none)) else none
def cq_bck (R : cq_Rc) (Z : cq_Z) : Bool := match Z with
  | (_, _, ls, st, fr, db, S) => bif fr.isEmpty && S.U.isNone && Nat.ble R.2.2.1 db then (match cq_pl (cq_lpl R.2.2.2.2.2.2.2.2) S with
      | none => false
      | some S1 => (match cq_vvs ls S1 R.2.2.2.2.2.2.2.2.1 with
        | some cur => cq_cks R ls st S1 cur && (match cur[R.2.2.2.2.2.2.2.2.2.2.2.2.1.1]?, R.2.2.2.2.2.2.2.2.1[R.2.2.2.2.2.2.2.2.2.2.2.2.1.1]? with
            | some c, some v => Nat.beq c.1 1 && !Nat.beq v.1 2 && cq_en S1.P (bif R.2.2.2.2.2.2.2.2.2.2.2.2.1.2 then cq_ac (cq_sub c.2.1 (cq_s (R.2.1 + R.2.2.2.2.2.2.2.2.2.2.2.2.1.1))) (-1) else cq_ac (cq_sub (cq_s (R.2.1 + R.2.2.2.2.2.2.2.2.2.2.2.2.1.1)) c.2.1) (-1))
            | _, _ => false)
        | none => false)) else false
def cq_fR (pc : Nat) : List cq_Rc → Option cq_Rc
  | [] => none
  | R :: r => bif Nat.beq R.1 pc then some R else cq_fR pc r
def cq_skp (sk : Option (Nat × Nat)) (S : cq_S) : Bool := match sk with
  | some q => (match cq_tl (false, q.1) (cq_c (q.2 : Int)) S.T with
    | some a => Nat.beq a.1 1 && cq_nn S.P.1 (cq_neg a.2.1)
    | none => false)
  | none => false
/-- all paths from a state -/
def cq_exec (nx : cq_Z → Option (List cq_Z)) (lps : Nat → Option (Option (Nat × Nat) × cq_Lp)) (y0 : Nat) (f : Nat) : List cq_Rc → cq_Z → Bool := Nat.rec (fun _ _ => false) (fun _ rec act Z =>
  match (bif Z.2.2.2.2.1.isEmpty && Nat.beq Z.1 y0 then lps Z.2.1 else none) with
  | some lp => bif cq_skp lp.1 Z.2.2.2.2.2.2 then (match nx Z with
      | some out => out.all (rec act)
      | none => false)
    else (match cq_fR Z.2.1 act with
      | some R => cq_bck R Z
      | none => (match cq_arr lp.2 Z with
        | some RZ => (match nx RZ.2 with
          | some out => out.all (rec (RZ.1 :: act))
          | none => false)
        | none => false))
  | none => (match nx Z with
    | some out => out.all (rec act)
    | none => false)) f
