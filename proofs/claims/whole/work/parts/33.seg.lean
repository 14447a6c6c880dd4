/-! two pieces side by side are one -/
theorem seg_cat {f : Int → Int} {o a b : Int} {g : Int → Int} (ha : 0 ≤ a) (hb : 0 ≤ b) : seg (seg f o a g) (o + a) b (fun k => g (a + k)) = seg f o (a + b) g := by
  funext x
  unfold seg
  by_cases c1 : o + a ≤ x ∧ x < o + a + b
  · rw [if_pos c1, if_pos (by omega)]
    show g (a + (x - (o + a))) = g (x - o)
    rw [show a + (x - (o + a)) = x - o by omega]
  · rw [if_neg c1]
    by_cases c2 : o ≤ x ∧ x < o + a
    · rw [if_pos c2, if_pos (by omega)]
    · rw [if_neg c2, if_neg (by omega)]
