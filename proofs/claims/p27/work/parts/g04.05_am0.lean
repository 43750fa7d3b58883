/-! numbers of arrays and classes -/
def am_aty (tc : Nat) : FieldType := match tc with
  | 0 => .int
  | 1 => .byte
  | 2 => .boolean
  | 3 => .long
  | c + 4 => .object (am_cn c)
def am_isA (tc : Nat) : Bool := Nat.blt tc 4 || Nat.beq tc 5 || Nat.beq tc 7 || Nat.beq tc 8 || Nat.beq tc 10
def am_N (ci : Nat) : Nat := match vwCl[ci]? with
  | some r => r.2.2
  | none => 0
