/-! statements told: the automaton's steps; a letter told twice -/
section TLG
variable {al k : Int} {s : aS}
theorem gO_0k (h : s.1 = 0) : gO al s k = tB s k := if_pos h
theorem gO_1q (h : s.1 = 1) (q : Int) : gO al s q = if q = 6 then some (3, s.2) else none := by
  unfold gO
  rw [if_neg (by omega), if_pos h]
theorem gO_2q (h : s.1 = 2) (q : Int) : gO al s q = if q = 5 then some (3, s.2) else none := by
  unfold gO
  rw [if_neg (by omega), if_neg (by omega), if_pos h]
theorem gO_3q (h : s.1 = 3) (q : Int) : gO al s q = if q = 7 then some (0, s.2) else none := by
  unfold gO
  rw [if_neg (by omega), if_neg (by omega), if_neg (by omega), if_pos h]
theorem tB_1 (h : k = 1 ∨ k = 3) : tB s k = some (1, s.2) := if_pos h
theorem tB_2 (h : k = 2) : tB s k = some (2, s.2.1, s.2.2.1 + 1, s.2.2.2) := by
  unfold tB
  rw [if_neg (by omega), if_pos h]
theorem tB_4 (h : k = 4) : tB s k = some (4, s.2.1, s.2.2.1, s.2.2.2.1 + 1, 1) := by
  unfold tB
  rw [if_neg (by omega), if_neg (by omega), if_pos h]
theorem tB_n (h : ¬ (k = 1 ∨ k = 2 ∨ k = 3 ∨ k = 4)) : tB s k = none := by
  unfold tB
  rw [if_neg (by omega), if_neg (by omega), if_neg (by omega)]
theorem whl_0n (ha : al = 0) (h : ¬ s.1 = 0) : ¬ whl al s := by
  unfold whl
  rw [if_pos ha]
  exact h
theorem aB_l (h : auB s) (hl : s.2.2.1 < 4) : auB (2, s.2.1, s.2.2.1 + 1, s.2.2.2) := ⟨by (try dsimp only); omega, h.2.1, by have := h.2.2.1; (try dsimp only); omega, h.2.2.2⟩
end TLG
/-- x among the i first names or not -/
def wlQ (NM : Int → Int) (x i W0 P0 pl W P : Int) : Prop := (¬ W0 = 0 ∧ W = W0 ∧ P = P0) ∨ (W0 = 0 ∧ W = 0 ∧ P = P0 ∧ ∀ j, 0 ≤ j → j < i → ¬ NM j = x) ∨ (W0 = 0 ∧ W = 3 ∧ P = pl ∧ ∃ j, (0 ≤ j ∧ j < i) ∧ NM j = x)
section WLQ
variable {NM : Int → Int} {x i W0 P0 pl W P W' P' : Int}
theorem wl_0 : wlQ NM x 0 W0 P0 pl W0 P0 := by
  by_cases c : W0 = 0
  · exact .inr (.inl ⟨c, c, rfl, fun j a b => by omega⟩)
  · exact .inl ⟨c, rfl, rfl⟩
theorem wl_n (h : wlQ NM x i W0 P0 pl W P) (e : ¬ NM i = x) : wlQ NM x (i + 1) W0 P0 pl W P := by
  rcases h with h | ⟨a, b, c, d⟩ | ⟨a, b, c, j, d, f⟩
  · exact .inl h
  · refine .inr (.inl ⟨a, b, c, fun j j0 j1 => ?_⟩)
    by_cases q : j = i
    · rw [q]; exact e
    · exact d j j0 (by omega)
  · exact .inr (.inr ⟨a, b, c, j, by omega, f⟩)
theorem wl_e (h : wlQ NM x i W0 P0 pl W P) (hi : 0 ≤ i) (e : NM i = x) (hP : ¬ W0 = 0 → P0 < pl) (f2 : W = 0 → W' = 3 ∧ P' = pl) (f3 : ¬ W = 0 → (P < pl ∨ (P = pl ∧ W ≤ 3)) → W' = W ∧ P' = P) : wlQ NM x (i + 1) W0 P0 pl W' P' := by
  rcases h with ⟨a, b, c⟩ | ⟨a, b, c, d⟩ | ⟨a, b, c, j, d, f⟩
  · have q := f3 (by omega) (.inl (by have := hP a; omega))
    exact .inl ⟨a, by omega, by omega⟩
  · have q := f2 b
    exact .inr (.inr ⟨a, q.1, q.2, i, by omega, e⟩)
  · have q := f3 (by omega) (.inr (by omega))
    exact .inr (.inr ⟨a, by omega, by omega, j, by omega, f⟩)
theorem wl_b (h : wlQ NM x i W0 P0 pl W P) (h0 : 0 ≤ W0 ∧ W0 ≤ 5) (hP : ¬ W0 = 0 → 0 ≤ P0 ∧ P0 < pl) (hpl : 0 ≤ pl) : (0 ≤ W ∧ W ≤ 5) ∧ (¬ W = 0 → 0 ≤ P ∧ P ≤ pl) := by
  rcases h with ⟨a, b, c⟩ | ⟨a, b, c, d⟩ | ⟨a, b, c, d⟩
  · exact ⟨by omega, fun _ => by have := hP a; omega⟩
  · exact ⟨by omega, fun q => absurd b q⟩
  · exact ⟨by omega, fun _ => by omega⟩
end WLQ
