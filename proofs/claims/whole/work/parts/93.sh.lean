theorem up_sh {X : Int → Int} {b i t v : Int} : up X (b + i) v (b + t) = up (fun t => X (b + t)) i v t := by
  unfold up
  by_cases c : t = i
  · rw [if_pos (by omega), if_pos c]
  · rw [if_neg (by omega), if_neg c]
