/-! ===== alike: nets of at most four points are told apart by their degrees ===== -/
def gb (a b c d e f : Bool) : Nat → Nat → Bool
  | 0, 1 => a
  | 1, 0 => a
  | 0, 2 => b
  | 2, 0 => b
  | 0, 3 => c
  | 3, 0 => c
  | 1, 2 => d
  | 2, 1 => d
  | 1, 3 => e
  | 3, 1 => e
  | 2, 3 => f
  | 3, 2 => f
  | _, _ => false
def dgB (g : Nat → Nat → Bool) (i : Nat) : Nat := (g i 0).toNat + (g i 1).toNat + (g i 2).toNat + (g i 3).toNat
def cnB (g : Nat → Nat → Bool) (d : Nat) : Nat := (dgB g 0 == d).toNat + (dgB g 1 == d).toNat + (dgB g 2 == d).toNat + (dgB g 3 == d).toNat
def stB (x y z : Nat) : Nat → Nat → Bool :=
  if x == 2 && y == 0 then gb true false false false false false
  else if x == 2 && y == 1 then gb true false false true false false
  else if y == 3 then gb true true false true false false
  else if x == 2 && y == 2 then gb true false false true false true
  else if x == 3 then gb true true true false false false
  else if y == 4 then gb true false true true false true
  else if x == 1 then gb true true true true false false
  else if y == 2 then gb true true true true true false
  else gb true true true true true true
def pmB : List (List Nat × List Nat) := [([0, 1, 2, 3], [0, 1, 2, 3]), ([0, 1, 3, 2], [0, 1, 3, 2]), ([0, 2, 1, 3], [0, 2, 1, 3]), ([0, 2, 3, 1], [0, 3, 1, 2]), ([0, 3, 1, 2], [0, 2, 3, 1]), ([0, 3, 2, 1], [0, 3, 2, 1]), ([1, 0, 2, 3], [1, 0, 2, 3]), ([1, 0, 3, 2], [1, 0, 3, 2]), ([1, 2, 0, 3], [2, 0, 1, 3]), ([1, 2, 3, 0], [3, 0, 1, 2]), ([1, 3, 0, 2], [2, 0, 3, 1]), ([1, 3, 2, 0], [3, 0, 2, 1]), ([2, 0, 1, 3], [1, 2, 0, 3]), ([2, 0, 3, 1], [1, 3, 0, 2]), ([2, 1, 0, 3], [2, 1, 0, 3]), ([2, 1, 3, 0], [3, 1, 0, 2]), ([2, 3, 0, 1], [2, 3, 0, 1]), ([2, 3, 1, 0], [3, 2, 0, 1]), ([3, 0, 1, 2], [1, 2, 3, 0]), ([3, 0, 2, 1], [1, 3, 2, 0]), ([3, 1, 0, 2], [2, 1, 3, 0]), ([3, 1, 2, 0], [3, 1, 2, 0]), ([3, 2, 0, 1], [2, 3, 1, 0]), ([3, 2, 1, 0], [3, 2, 1, 0])]
def goB (s : Nat) (g h : Nat → Nat → Bool) (l m : List Nat) : Bool := [0, 1, 2, 3].all fun i => !(decide (i < s)) || (decide (l.getD i 0 < s) && decide (m.getD i 0 < s) && l.getD (m.getD i 0) 0 == i && m.getD (l.getD i 0) 0 == i && [0, 1, 2, 3].all fun j => !(decide (j < s)) || g (l.getD i 0) (l.getD j 0) == h i j)
def prB (s : Nat) (g : Nat → Nat → Bool) : Bool := ([0, 1, 2, 3].all fun i => if decide (i < s) then decide (1 ≤ dgB g i) else dgB g i == 0) && !(cnB g 1 == 4)
def okB (s : Nat) (g : Nat → Nat → Bool) : Bool := !(prB s g) || pmB.any fun lm => goB s g (stB (cnB g 1) (cnB g 2) (cnB g 3)) lm.1 lm.2
theorem okB_all : ∀ a b c d e f : Bool, (okB 2 (gb a b c d e f) && okB 3 (gb a b c d e f) && okB 4 (gb a b c d e f)) = true := by decide
