theorem sers_step {f S S2 : Int → Int} {k : Int} (hk : 1 ≤ k) (hS : S 0 = 1 ∧ ∀ j, 1 ≤ j → j < k → S j = -(sm (fun i => f (i + 1) * S (j - (i + 1))) j.toNat)) (h2 : S2 k = -(sm (fun i => f (i + 1) * S (k - (i + 1))) k.toNat)) (h3 : ∀ j, ¬ j = k → S2 j = S j) : S2 0 = 1 ∧ ∀ j, 1 ≤ j → j < k + 1 → S2 j = -(sm (fun i => f (i + 1) * S2 (j - (i + 1))) j.toNat) := by
  refine ⟨by rw [h3 0 (by omega)]; exact hS.1, fun j h8 h9 => ?_⟩
  have e : sm (fun i => f (i + 1) * S2 (j - (i + 1))) j.toNat = sm (fun i => f (i + 1) * S (j - (i + 1))) j.toNat := sm_ext _ (fun i i0 i1 => by
    show f (i + 1) * S2 (j - (i + 1)) = f (i + 1) * S (j - (i + 1))
    rw [h3 _ (by omega)])
  rw [e]
  by_cases c : j = k
  · rw [c]; exact h2
  · rw [h3 j c]; exact hS.2 j h8 (by omega)
