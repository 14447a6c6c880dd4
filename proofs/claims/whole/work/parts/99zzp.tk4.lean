/-! a token scanned -/
section TK4
variable {b : Int → Int} {N i : Int}
theorem te_L (h : 97 ≤ b i ∧ b i ≤ 122) : te b N i = teL b N i := if_pos h
theorem te_D (h : ¬ (97 ≤ b i ∧ b i ≤ 122)) (g : 48 ≤ b i ∧ b i ≤ 57) : te b N i = teD b N i := by
  unfold te
  rw [if_neg h, if_pos g]
theorem te_S (h : ¬ (97 ≤ b i ∧ b i ≤ 122)) (g : ¬ (48 ≤ b i ∧ b i ≤ 57)) : te b N i = i + 1 := by
  unfold te
  rw [if_neg h, if_neg g]
theorem kd_L (h : 97 ≤ b i ∧ b i ≤ 122) : kd b N i = if 8 < te b N i - i then 0 else wkd (wf 32 b i (te b N i - i).toNat) := by
  rw [te_L h]
  exact if_pos h
theorem kd_D (h : ¬ (97 ≤ b i ∧ b i ≤ 122)) (g : 48 ≤ b i ∧ b i ≤ 57) : kd b N i = if 4 < te b N i - i then 0 else 6 := by
  rw [te_D h g]
  unfold kd
  rw [if_neg h, if_pos g]
theorem kd_S (h : ¬ (97 ≤ b i ∧ b i ≤ 122)) (g : ¬ (48 ≤ b i ∧ b i ≤ 57)) : kd b N i = sgk (b i) := by
  unfold kd
  rw [if_neg h, if_neg g]
theorem te_b (hi : i < N) : i < te b N i ∧ te b N i ≤ N := by
  by_cases h : 97 ≤ b i ∧ b i ≤ 122
  · have g := rn_b (q := fun j => isLe (b j)) (N := N) (i := i) (by omega)
    rw [te_L h]
    refine ⟨?_, g.1.2⟩
    rcases Int.lt_or_le i (teL b N i) with c | c
    · exact c
    · have e : teL b N i = i := Int.le_antisymm c g.1.1
      exact absurd h (by have q := g.2.2 (by show teL b N i < N; omega); rw [show rn (fun j => isLe (b j)) N i = i from e] at q; exact q)
  · by_cases k : 48 ≤ b i ∧ b i ≤ 57
    · have g := rn_b (q := fun j => isDi (b j)) (N := N) (i := i) (by omega)
      rw [te_D h k]
      refine ⟨?_, g.1.2⟩
      rcases Int.lt_or_le i (teD b N i) with c | c
      · exact c
      · have e : teD b N i = i := Int.le_antisymm c g.1.1
        exact absurd k (by have q := g.2.2 (by show teD b N i < N; omega); rw [show rn (fun j => isDi (b j)) N i = i from e] at q; exact q)
    · rw [te_S h k]; omega
theorem kd_b : 0 ≤ kd b N i ∧ kd b N i ≤ 12 := by
  by_cases h : 97 ≤ b i ∧ b i ≤ 122
  · rw [kd_L h]
    by_cases g : 8 < te b N i - i
    · rw [if_pos g]; decide
    · rw [if_neg g]; have := wkd_b (wf 32 b i (te b N i - i).toNat); omega
  · by_cases k : 48 ≤ b i ∧ b i ≤ 57
    · rw [kd_D h k]
      by_cases g : 4 < te b N i - i
      · rw [if_pos g]; decide
      · rw [if_neg g]; decide
    · rw [kd_S h k]; exact sgk_b _
theorem sgk_n (c : Int) : ¬ sgk c = 5 ∧ ¬ sgk c = 6 := by
  unfold sgk
  by_cases h1 : c = 59
  · rw [if_pos h1]; decide
  rw [if_neg h1]
  by_cases h2 : c = 61
  · rw [if_pos h2]; decide
  rw [if_neg h2]
  by_cases h3 : c = 43
  · rw [if_pos h3]; decide
  rw [if_neg h3]
  by_cases h4 : c = 45
  · rw [if_pos h4]; decide
  rw [if_neg h4]
  by_cases h5 : c = 40
  · rw [if_pos h5]; decide
  rw [if_neg h5]
  by_cases h6 : c = 41
  · rw [if_pos h6]; decide
  rw [if_neg h6]; decide
/-- what a scan tells of the token that begins at i -/
def scn (b : Int → Int) (N i e k n p : Int) : Prop := e = te b N i ∧ k = kd b N i ∧ (k = 6 → n = df b i (te b N i - i).toNat) ∧ (k = 5 → p = wf 32 b i (te b N i - i).toNat)
theorem scn_L {e k n p : Int} (h : 97 ≤ b i ∧ b i ≤ 122) (h1 : e = teL b N i) (h2 : k = if 8 < e - i then 0 else wkd p) (h3 : e - i ≤ 8 → p = wf 32 b i (e - i).toNat) : scn b N i e k n p := by
  rw [← te_L (N := N) h] at h1
  subst h1
  by_cases g : 8 < te b N i - i
  · rw [if_pos g] at h2
    exact ⟨rfl, by rw [kd_L h, if_pos g]; exact h2, fun q => by omega, fun q => by omega⟩
  · rw [if_neg g] at h2
    have h4 := h3 (by omega)
    have h5 := wkd_b p
    exact ⟨rfl, by rw [kd_L h, if_neg g, ← h4]; exact h2, fun q => by omega, fun _ => h4⟩
theorem scn_D {e k n p : Int} (h : ¬ (97 ≤ b i ∧ b i ≤ 122)) (g : 48 ≤ b i ∧ b i ≤ 57) (h1 : e = teD b N i) (h2 : k = if 4 < e - i then 0 else 6) (h3 : e - i ≤ 4 → n = df b i (e - i).toNat) : scn b N i e k n p := by
  rw [← te_D (N := N) h g] at h1
  subst h1
  by_cases c : 4 < te b N i - i
  · rw [if_pos c] at h2
    exact ⟨rfl, by rw [kd_D h g, if_pos c]; exact h2, fun q => by omega, fun q => by omega⟩
  · rw [if_neg c] at h2
    exact ⟨rfl, by rw [kd_D h g, if_neg c]; exact h2, fun _ => h3 (by omega), fun q => by omega⟩
theorem scn_S {e k n p : Int} (h : ¬ (97 ≤ b i ∧ b i ≤ 122)) (g : ¬ (48 ≤ b i ∧ b i ≤ 57)) (h1 : e = i + 1) (h2 : k = sgk (b i)) : scn b N i e k n p := by
  have s := sgk_n (b i)
  exact ⟨by rw [te_S h g]; exact h1, by rw [kd_S h g]; exact h2, fun q => by omega, fun q => by omega⟩
end TK4
