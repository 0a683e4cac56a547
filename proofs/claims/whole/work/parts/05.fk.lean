/-- what a field holds: 0 a number, 1 a boolean, 2 a reference that stays, 3 one that moves -/
def fk (ci j : Nat) : Nat := match ci with
  | 0 => ([2, 2, 0] : List Nat).getD j 0
  | 1 => ([2, 2] : List Nat).getD j 0
  | 2 => ([0, 2, 2, 2, 2, 2, 2, 2] : List Nat).getD j 0
  | 3 => ([2, 2, 0, 0, 0, 0, 0] : List Nat).getD j 0
  | 4 => ([2, 2, 2, 0, 0, 0, 0] : List Nat).getD j 0
  | 5 => ([2, 2, 2, 0, 0, 0] : List Nat).getD j 0
  | 6 => ([2, 0] : List Nat).getD j 0
  | 7 => ([2, 2, 2, 2, 2, 2, 2, 2, 2, 2, 1] : List Nat).getD j 0
  | 8 => ([0, 2, 2, 2, 2, 2, 2, 2, 0, 0, 0, 0, 2, 2, 0, 2, 2, 2, 2, 2, 2, 2, 0, 0, 0, 2, 0, 0, 1, 0, 2, 2, 1, 0, 1, 3, 2, 0, 2, 2, 2] : List Nat).getD j 0
  | _ => 0
