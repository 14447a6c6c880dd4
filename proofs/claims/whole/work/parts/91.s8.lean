theorem sW_81 {n D p q : Int} (hO : sOk n D p) (h : q = 1 ∨ q + 1 ≤ D) : sW n D q ≤ 81 := by
  rcases h with h | h
  · subst h
    unfold sW
    split
    · have := hO.1.2
      show n ^ 1 ≤ 81
      rw [Int.pow_one]; omega
    · decide
  · by_cases hq : 0 ≤ q
    · have h1 : sW n D q ≤ sW n D (D - 1) ∨ n = 0 := by
        by_cases hn : n = 0
        · exact .inr hn
        · left
          have hn0 := hO.1.1
          have e : sW n D (D - 1) = sW n D q * sW n D (D - 1 - q) := by
            rw [← sW_add hq (by omega) (by omega), show q + (D - 1 - q) = D - 1 by omega]
          have h2 : 1 ≤ sW n D (D - 1 - q) := by
            rw [sW_in (by omega) (by omega)]
            exact Int.pow_pos (by omega)
          rw [e]
          calc sW n D q = sW n D q * 1 := (Int.mul_one _).symm
            _ ≤ _ := Int.mul_le_mul_of_nonneg_left h2 (sW_nn hn0)
      rcases h1 with h1 | h1
      · refine Int.le_trans h1 ?_
        rcases sOk_cases hO with ⟨rfl, h3, h4⟩ | ⟨rfl, h3, h4⟩ | ⟨rfl, h3, h4⟩ | ⟨rfl, h3, h4⟩ | ⟨rfl, h3, h4⟩
        · have : D = 1 ∨ D = 2 ∨ D = 3 ∨ D = 4 ∨ D = 5 ∨ D = 6 ∨ D = 7 := by omega
          rcases this with rfl | rfl | rfl | rfl | rfl | rfl | rfl <;> decide
        · have : D = 1 ∨ D = 2 ∨ D = 3 ∨ D = 4 ∨ D = 5 ∨ D = 6 ∨ D = 7 := by omega
          rcases this with rfl | rfl | rfl | rfl | rfl | rfl | rfl <;> decide
        · have : D = 1 ∨ D = 2 ∨ D = 3 ∨ D = 4 ∨ D = 5 ∨ D = 6 ∨ D = 7 := by omega
          rcases this with rfl | rfl | rfl | rfl | rfl | rfl | rfl <;> decide
        · have : D = 1 ∨ D = 2 ∨ D = 3 ∨ D = 4 ∨ D = 5 := by omega
          rcases this with rfl | rfl | rfl | rfl | rfl <;> decide
        · have : D = 1 ∨ D = 2 ∨ D = 3 ∨ D = 4 := by omega
          rcases this with rfl | rfl | rfl | rfl <;> decide
      · subst h1
        unfold sW
        split
        · rcases Nat.eq_zero_or_pos q.toNat with e | e
          · rw [e]; decide
          · rw [show q.toNat = (q.toNat - 1) + 1 by omega, Int.pow_succ, Int.mul_zero]; decide
        · decide
    · rw [sW_neg (by omega)]; decide
