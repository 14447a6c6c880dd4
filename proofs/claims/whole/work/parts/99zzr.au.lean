/-! the automaton over kinds of tokens: due, depth, letters, laws, may a sign of equality come -/
abbrev aS := Int × Int × Int × Int × Int
def tB (s : aS) (k : Int) : Option aS := if k = 1 ∨ k = 3 then some (1, s.2) else if k = 2 then some (2, s.2.1, s.2.2.1 + 1, s.2.2.2) else if k = 4 then some (4, s.2.1, s.2.2.1, s.2.2.2.1 + 1, 1) else none
def fB (s : aS) (k : Int) : Option aS := if k = 11 then some (4, s.2.1 + 1, s.2.2) else if k = 5 then some (6, s.2) else none
def mB (s : aS) (k : Int) : Option aS := if k = 6 then some (6, s.2) else fB s k
def tG (al : Int) (s : aS) (k : Int) : Option aS := if k = 9 ∨ k = 10 then some (5, s.2) else if k = 12 then (if 1 ≤ s.2.1 then some (6, s.2.1 - 1, s.2.2) else none) else if k = 8 then (if s.2.1 = 0 ∧ al = 0 ∧ ¬ s.2.2.2.2 = 0 then some (4, s.2.1, s.2.2.1, s.2.2.2.1, 0) else none) else if k = 7 then (if s.2.1 = 0 ∧ al = 0 then some (0, s.2) else none) else fB s k
def gO (al : Int) (s : aS) (k : Int) : Option aS := if s.1 = 0 then tB s k else if s.1 = 1 then (if k = 6 then some (3, s.2) else none) else if s.1 = 2 then (if k = 5 then some (3, s.2) else none) else if s.1 = 3 then (if k = 7 then some (0, s.2) else none) else if s.1 = 4 then (if k = 10 then some (5, s.2) else mB s k) else if s.1 = 5 then mB s k else tG al s k
