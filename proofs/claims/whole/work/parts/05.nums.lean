/-! whole numbers beside the machine's -/
theorem nu_toInt (z : Int) : (Int32.ofInt z).toInt = w32 z := by rw [Int32.toInt_ofInt]; rfl
theorem nu_toInt64 (z : Int) : (Int64.ofInt z).toInt = w64 z := by rw [Int64.toInt_ofInt]; rfl
theorem nu_w (z : Int) : Int32.ofInt (w32 z) = Int32.ofInt z := by rw [← nu_toInt, Int32.ofInt_toInt]
theorem nu_w64 (z : Int) : Int64.ofInt (w64 z) = Int64.ofInt z := by rw [← nu_toInt64, Int64.ofInt_toInt]
theorem nu_add (a b : Int) : Int32.ofInt a + Int32.ofInt b = Int32.ofInt (a + b) := (Int32.ofInt_add a b).symm
theorem nu_sub (a b : Int) : Int32.ofInt a - Int32.ofInt b = Int32.ofInt (a - b) := (Int32.ofInt_sub a b).symm
theorem nu_mul (a b : Int) : Int32.ofInt a * Int32.ofInt b = Int32.ofInt (a * b) := (Int32.ofInt_mul a b).symm
theorem nu_neg (a : Int) : -Int32.ofInt a = Int32.ofInt (-a) := Int32.neg_ofInt
theorem nu_addl (a b : Int) : Int64.ofInt a + Int64.ofInt b = Int64.ofInt (a + b) := (Int64.ofInt_add a b).symm
theorem nu_subl (a b : Int) : Int64.ofInt a - Int64.ofInt b = Int64.ofInt (a - b) := (Int64.ofInt_sub a b).symm
theorem nu_mull (a b : Int) : Int64.ofInt a * Int64.ofInt b = Int64.ofInt (a * b) := (Int64.ofInt_mul a b).symm
theorem nu_negl (a : Int) : -Int64.ofInt a = Int64.ofInt (-a) := Int64.neg_ofInt
theorem nu_div (a b : Int) : Int32.ofInt a / Int32.ofInt b = Int32.ofInt ((w32 a).tdiv (w32 b)) := by
  apply Int32.toInt.inj
  rw [Int32.toInt_div, nu_toInt, nu_toInt, nu_toInt]; rfl
theorem nu_divl (a b : Int) : Int64.ofInt a / Int64.ofInt b = Int64.ofInt ((w64 a).tdiv (w64 b)) := by
  apply Int64.toInt.inj
  rw [Int64.toInt_div, nu_toInt64, nu_toInt64, nu_toInt64]; rfl
theorem nu_rem (a b : Int) : Int32.ofInt a - Int32.ofInt a / Int32.ofInt b * Int32.ofInt b = Int32.ofInt ((w32 a).tmod (w32 b)) := by
  rw [nu_div, ← nu_w a, ← nu_w b, nu_mul, nu_sub]
  congr 1
  rw [Int.tmod_def, Int.mul_comm]
theorem nu_reml (a b : Int) : Int64.ofInt a - Int64.ofInt a / Int64.ofInt b * Int64.ofInt b = Int64.ofInt ((w64 a).tmod (w64 b)) := by
  rw [nu_divl, ← nu_w64 a, ← nu_w64 b, nu_mull, nu_subl]
  congr 1
  rw [Int.tmod_def, Int.mul_comm]
theorem nu_eq (a b : Int) : Int32.ofInt a = Int32.ofInt b ↔ w32 a = w32 b := by
  rw [← Int32.toInt_inj, nu_toInt, nu_toInt]
theorem nu_lt (a b : Int) : Int32.ofInt a < Int32.ofInt b ↔ w32 a < w32 b := by
  rw [Int32.lt_iff_toInt_lt, nu_toInt, nu_toInt]
theorem nu_le (a b : Int) : Int32.ofInt a ≤ Int32.ofInt b ↔ w32 a ≤ w32 b := by
  rw [Int32.le_iff_toInt_le, nu_toInt, nu_toInt]
theorem nu_ltl (a b : Int) : Int64.ofInt a < Int64.ofInt b ↔ w64 a < w64 b := by
  rw [Int64.lt_iff_toInt_lt, nu_toInt64, nu_toInt64]
theorem nu_eql (a b : Int) : Int64.ofInt a = Int64.ofInt b ↔ w64 a = w64 b := by
  rw [← Int64.toInt_inj, nu_toInt64, nu_toInt64]
theorem nu_0 : (0 : Int32) = Int32.ofInt 0 := rfl
theorem nu_w0 : w32 0 = 0 := by decide
theorem nu_ne0 {b : Int} (h : ¬ w32 b = 0) : ¬ Int32.ofInt b = 0 := by
  rw [nu_0, nu_eq, nu_w0]; exact h
theorem nu_ne0l {b : Int} (h : ¬ w64 b = 0) : ¬ Int64.ofInt b = 0 := by
  rw [show (0 : Int64) = Int64.ofInt 0 from rfl, nu_eql, show w64 0 = 0 by decide]; exact h
theorem nu_i2l (a : Int) : (Int32.ofInt a).toInt64 = Int64.ofInt (w32 a) := by
  rw [← nu_toInt]; exact (Int64.ofInt_int32ToInt _).symm
theorem nu_l2i (a : Int) : (Int64.ofInt a).toInt32 = Int32.ofInt a := Int64.toInt32_ofInt
theorem nu_i2b (a : Int) : (Int32.ofInt a).toInt8.toInt32 = Int32.ofInt (en_i2b a) := by
  rw [Int32.toInt8_ofInt, ← Int32.ofInt_int8ToInt, Int8.toInt_ofInt]; rfl
theorem nu_ix {j : Int} {n : Nat} (h : 0 ≤ w32 j ∧ w32 j < n) : vp_in (Int32.ofInt j) n ∧ (Int32.ofInt j).toNatClampNeg = (w32 j).toNat := by
  have e : (Int32.ofInt j).toNatClampNeg = (w32 j).toNat := by
    rw [← Int32.toNat_toInt, nu_toInt]
  refine ⟨?_, e⟩
  unfold vp_in
  rw [e, nu_0, nu_lt, nu_w0]
  omega
theorem nu_bv (a : Int32) : Int32.ofInt a.toInt = a := Int32.ofInt_toInt a
theorem nu_bvl (a : Int64) : Int64.ofInt a.toInt = a := Int64.ofInt_toInt a
theorem nu_cmp (a b : Int) : lg_cmp (Int64.ofInt a) (Int64.ofInt b) = Int32.ofInt (if w64 a < w64 b then -1 else if w64 b < w64 a then 1 else 0) := by
  unfold lg_cmp
  simp only [nu_ltl, nu_eql]
  repeat' split
  all_goals first | rfl | omega
theorem nu_nat (n : Nat) : Int32.ofNat n = Int32.ofInt n := Int32.ofInt_eq_ofNat.symm
