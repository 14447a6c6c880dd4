theorem lg_b {n D a b : Int} : -1 ≤ (if a < 0 then -1 else sL n D b) ∧ (if a < 0 then -1 else sL n D b) ≤ 7 := by
  have := sL_b n D b
  split <;> omega
