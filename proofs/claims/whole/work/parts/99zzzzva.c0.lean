/-! small facts of what stands at 0 -/
theorem c0_0 {a t : Int} (h : a = 0) (g : t = 0) : a ≤ 2 * t := by omega
theorem w0_b {w : Int} (h : w = 0) : 0 ≤ w ∧ w ≤ 5 := by omega
