theorem ke_b {o C C' : Int} {H M F L BE CO CI H' F' L' BE' CO' CI' : Int → Int} (h : etQ o H M F L BE C CO CI H' F' L' BE' C' CO' CI') (a : 0 ≤ BE 0 ∧ BE 0 ≤ 1000) (b : 0 ≤ BE o ∧ BE o ≤ 1000) (c : 0 ≤ L o ∧ L o ≤ 1000) : 0 ≤ BE' 0 ∧ BE' 0 ≤ 1000 := by
  rw [h.2.2.2.1 0]
  split <;> omega
