/-! bits of a long -/
def bit (z v : Int) : Bool := (Int64.ofInt z).toBitVec.getLsbD v.toNat
theorem bt_sh : (List.range 64).all (fun k => (((Int32.ofInt (k : Int)).toInt64 &&& 63).toBitVec.smod 64) == BitVec.ofNat 64 k) = true := by decide +kernel
theorem bt_s {v : Int} (h : 0 ≤ v ∧ v < 64) : ((Int32.ofInt v).toInt64 &&& 63).toBitVec.smod 64 = BitVec.ofNat 64 v.toNat := by
  have h1 := List.all_eq_true.mp bt_sh v.toNat (List.mem_range.mpr (by omega))
  rw [show ((v.toNat : Nat) : Int) = v by omega] at h1
  exact eq_of_beq h1
theorem bt_or (a b v : Int) : bit (en_lor a b) v = (bit a v || bit b v) := by
  unfold bit en_lor
  rw [Int64.ofInt_toInt, Int64.toBitVec_or, BitVec.getLsbD_or]
theorem bt_0 (v : Int) : bit 0 v = false := by
  unfold bit
  rw [show (Int64.ofInt 0).toBitVec = 0#64 from rfl]
  exact BitVec.getLsbD_zero
theorem bt_1 : (List.range 64).all (fun k => (List.range 64).all (fun j => (Int64.ofInt (en_lshl 1 (k : Int))).toBitVec.getLsbD j == decide (k = j))) = true := by decide +kernel
theorem bt_shl {u v : Int} (hu : 0 ≤ u ∧ u < 64) (hv : 0 ≤ v ∧ v < 64) : bit (en_lshl 1 u) v = decide (u = v) := by
  have h1 := List.all_eq_true.mp bt_1 u.toNat (List.mem_range.mpr (by omega))
  have h2 := List.all_eq_true.mp h1 v.toNat (List.mem_range.mpr (by omega))
  rw [show ((u.toNat : Nat) : Int) = u by omega] at h2
  have h3 := eq_of_beq h2
  unfold bit
  rw [h3]
  by_cases g : u = v
  · rw [decide_eq_true g, decide_eq_true (by omega)]
  · rw [decide_eq_false g, decide_eq_false (by omega)]
theorem bt_val {z v : Int} (h : 0 ≤ v ∧ v < 64) : en_land (en_lshr z v) 1 = bI (bit z v = true) := by
  unfold en_land en_lshr
  rw [Int64.ofInt_toInt]
  have e1 : (Int64.ofInt z >>> ((Int32.ofInt v).toInt64 &&& 63) &&& Int64.ofInt 1).toBitVec = BitVec.setWidth 64 (BitVec.ofBool (bit z v)) := by
    rw [Int64.toBitVec_and]
    show BitVec.sshiftRight' (Int64.ofInt z).toBitVec (((Int32.ofInt v).toInt64 &&& 63).toBitVec.smod 64) &&& 1#64 = _
    rw [bt_s h, BitVec.and_one_eq_setWidth_ofBool_getLsbD, BitVec.getLsbD_sshiftRight', BitVec.toNat_ofNat, Nat.mod_eq_of_lt (by omega : v.toNat < 2 ^ 64)]
    unfold bit
    rw [Nat.add_zero, if_pos (by omega)]
    simp
  show (Int64.ofInt z >>> ((Int32.ofInt v).toInt64 &&& 63) &&& Int64.ofInt 1).toBitVec.toInt = _
  rw [e1]
  cases e : bit z v
  · rw [bI_f (by decide)]; rfl
  · rw [bI_t rfl]; rfl
/-- the places that come behind one, in two longs -/
def bL (A B : Int → Int) (u v : Int) : Bool := if v < 64 then bit (A u) v else bit (B u) (v - 64)
