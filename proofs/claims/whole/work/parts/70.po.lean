theorem tl_m {n D p : Int} {P F : Int → Int} (hO : sOk n D p) (h0 : ¬ sG P (sS n D (D + 1)).toNat < 0) (h : (if sG P (sS n D (D + 1)).toNat < 0 then -1 else sL n D (sG P (sS n D (D + 1)).toNat)) + (if sG F (sS n D (D + 1)).toNat < 0 then -1 else sL n D (sG F (sS n D (D + 1)).toNat)) ≤ D) : tpR n D P + tpR n D F ≤ D := by
  have hb := sG_bb (f := P) hO
  have hw := sL_w hO (Int.not_lt.mp h0) hb.2
  have hf := sG_b F (sS n D (D + 1)).toNat
  unfold tpR
  rw [if_neg h0] at h
  by_cases e2 : sG F (sS n D (D + 1)).toNat < 0
  · rw [show sG F (sS n D (D + 1)).toNat = -1 by omega, sL_neg1 hO]; omega
  · rw [if_neg e2] at h
    exact h
theorem tl_p {n D p : Int} {P F : Int → Int} (hO : sOk n D p) (h0 : ¬ sG P (sS n D (D + 1)).toNat < 0) (h : D < (if sG P (sS n D (D + 1)).toNat < 0 then -1 else sL n D (sG P (sS n D (D + 1)).toNat)) + (if sG F (sS n D (D + 1)).toNat < 0 then -1 else sL n D (sG F (sS n D (D + 1)).toNat))) : D < tpR n D P + tpR n D F := by
  have hb := sG_bb (f := P) hO
  have hw := sL_w hO (Int.not_lt.mp h0) hb.2
  unfold tpR
  rw [if_neg h0] at h
  by_cases e2 : sG F (sS n D (D + 1)).toNat < 0
  · rw [if_pos e2] at h; omega
  · rw [if_neg e2] at h
    exact h
theorem pr_z0 {n D x : Int} {a b : Int → Int} : prd n D (fun y => a (0 + y)) (fun y => b (0 + y)) x = prd n D a b x := by
  have e1 : (fun y => a (0 + y)) = a := funext fun y => by rw [Int.zero_add]
  have e2 : (fun y => b (0 + y)) = b := funext fun y => by rw [Int.zero_add]
  rw [e1, e2]
