/-! the arrays that are given at the start, and the empty heap -/
def mm_T : Nat → Int32 := fun j => match j with
  | 0 => 1
  | 1 => 10
  | 2 => 100
  | 3 => 1000
  | 4 => 10000
  | 5 => 100000
  | 6 => 1000000
  | 7 => 10000000
  | _ => 100000000
def mm_F : Nat → Int32 := fun j => match j with
  | 0 => 1
  | 1 => 1
  | 2 => 2
  | 3 => 6
  | 4 => 24
  | 5 => 120
  | 6 => 720
  | 7 => 5040
  | _ => 40320
def mm_tbl (L : Nat) (xs : Nat → Int32) : Nat → Nat × (Nat → Int32) := fun t => match t with
  | 0 => (9, mm_T)
  | 1 => (9, mm_F)
  | _ => (L, xs)
abbrev mm_h0 : AH := (0, fun _ => none)
