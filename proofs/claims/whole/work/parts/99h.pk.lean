/-! a sum over what is kept, taken in order -/
theorem sm_pick {IK g : Int → Int} (hf : R01 IK) : ∀ m : Nat, sm (fun a => if IK a = 1 then g a else 0) m = sm (fun k => g (nth IK k m)) (sm IK m).toNat
  | 0 => rfl
  | m + 1 => by
    have h1 := hf m
    have hb : ∀ x, 0 ≤ IK x ∧ IK x ≤ 1 := fun x => by have := hf x; omega
    have h2 := sm_01 (f := IK) hb m
    have ih := sm_pick (g := g) hf m
    have e1 : ((m : Int) + 1).toNat = m + 1 := by omega
    have e2 : (m : Int).toNat = m := by omega
    have e3 : ∀ k : Int, 0 ≤ k → k < (sm IK m).toNat → g (nth IK k m) = g (nth IK k (m + 1)) := fun k a b => by
      have h3 := nth_old hb a (show (0 : Int) ≤ m by omega) (by rw [e2]; omega)
      rw [e1, e2] at h3
      rw [h3]
    show sm (fun a => if IK a = 1 then g a else 0) m + (if IK m = 1 then g m else 0) = sm (fun k => g (nth IK k (m + 1))) (sm IK m + IK m).toNat
    rw [ih, sm_ext (g := fun k => g (nth IK k (m + 1))) _ e3]
    rcases h1 with h | h
    · rw [h, if_neg (by decide), Int.add_zero, Int.add_zero]
    · have h4 := nth_new hb (show (0 : Int) ≤ m by omega) h
      rw [e1, e2] at h4
      rw [h, if_pos rfl, sm_s _ h2.1, h4]
