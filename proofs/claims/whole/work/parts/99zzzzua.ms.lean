/-! a measure that falls by one -/
theorem ms_u {a k : Int} {N : Nat} (h : (a - k).toNat < N + 1) (g : k < a) : (a - (k + 1)).toNat < N := by omega
