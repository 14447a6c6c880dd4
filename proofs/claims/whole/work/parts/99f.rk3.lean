/-! bounds of a rank -/
theorem rkI_b {p m N R : Int} {IK KR : Int → Int} {A : Int → Int → Int} (h1 : R01 IK) (h : rkI p IK KR A m N R) : 0 ≤ R ∧ (0 ≤ m → R ≤ m) := by
  have h2 := sm_01 (f := IK) (fun x => by have := h1 x; omega) m.toNat
  rw [h.2.1]
  omega
