/-- the state behind both constructors -/
def x0 : XS := fun a k =>
  if a = 99 then (if k = 4 then -1 else 0)
  else if a = 100 then (if k = 0 then 1 else if k = 4 then 20 else 0)
  else if a = 105 then kyL.getD k 0
  else if a = 106 then kyA.getD k 0
  else if a = 112 then -1
  else match tg a with
    | 0 => if k = 2 ∨ k = 3 then 1 else 0
    | 1 => if k = 0 then -1 else 0
    | 3 => if k = 6 then 20 else if k = 9 then 1 else if k = 11 then -1 else 0
    | 5 => if k = 0 then nI ((a - 41) / 2) else 0
    | _ => 0
abbrev FIN (G : GT) : Nat → Nat → Value := vw G.1 x0
/-- the cells from a on, z of them, are as they will be -/
def fV (G : GT) (V : Nat → Nat → Value) (a z : Nat) : Nat → Nat → Value := fun b => if a ≤ b ∧ b < a + z then FIN G b else V b
