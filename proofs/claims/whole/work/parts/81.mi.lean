/-! the dual's laws in the class -/
def dlA (n D : Int) (F : Int → Int → Int) (L LR : Int → Int) (m k : Int) : Prop := (∀ i, 0 ≤ i → i < m → ∃ k', (0 ≤ k' ∧ k' < k) ∧ L k' = 0 ∧ ∀ j, 0 ≤ j → j < sW n D 2 → LR (i * 256 + j) = F j k') ∧ ∀ k', 0 ≤ k' → k' < k → L k' = 0 → ∃ i, (0 ≤ i ∧ i < m) ∧ ∀ j, 0 ≤ j → j < sW n D 2 → LR (i * 256 + j) = F j k'
theorem dlA_0 {n D : Int} {F : Int → Int → Int} {L LR : Int → Int} : dlA n D F L LR 0 0 := ⟨fun i _ _ => by omega, fun k _ _ _ => by omega⟩
theorem dlA_skip {n D m k : Int} {F : Int → Int → Int} {L LR : Int → Int} (h : dlA n D F L LR m k) (hk : ¬ L k = 0) : dlA n D F L LR m (k + 1) := by
  refine ⟨fun i a b => ?_, fun k' a b c => ?_⟩
  · obtain ⟨k', g1, g2, g3⟩ := h.1 i a b
    exact ⟨k', by omega, g2, g3⟩
  · by_cases e : k' = k
    · rw [e] at c; exact absurd c hk
    · exact h.2 k' a (by omega) c
theorem dlA_new {n D m k : Int} {F : Int → Int → Int} {L LR LR' B : Int → Int} (h : dlA n D F L LR m k) (hm : 0 ≤ m) (hk : 0 ≤ k) (hL : L k = 0) (hW : sW n D 2 ≤ 16) (h1 : ∀ j, 0 ≤ j → j < sW n D 2 → LR' (m * 256 + j) = B j) (h2 : ∀ x, x < m * 256 → LR' x = LR x) (hB : ∀ j, 0 ≤ j → j < sW n D 2 → B j = F j k) : dlA n D F L LR' (m + 1) (k + 1) := by
  have old : ∀ i, 0 ≤ i → i < m → ∀ j, 0 ≤ j → j < sW n D 2 → LR' (i * 256 + j) = LR (i * 256 + j) := fun i a b j c d => h2 _ (by omega)
  refine ⟨fun i a b => ?_, fun k' a b c => ?_⟩
  · by_cases e : i = m
    · exact ⟨k, by omega, hL, fun j g0 g1 => by rw [e, h1 j g0 g1, hB j g0 g1]⟩
    · obtain ⟨k', g1, g2, g3⟩ := h.1 i a (by omega)
      exact ⟨k', by omega, g2, fun j i0 i1 => by rw [old i a (by omega) j i0 i1]; exact g3 j i0 i1⟩
  · by_cases e : k' = k
    · exact ⟨m, by omega, fun j g0 g1 => by rw [e, h1 j g0 g1, hB j g0 g1]⟩
    · obtain ⟨i, g1, g2⟩ := h.2 k' a (by omega) c
      exact ⟨i, by omega, fun j i0 i1 => by rw [old i g1.1 g1.2 j i0 i1]; exact g2 j i0 i1⟩
theorem dl_ok {n D p m k : Int} {LW : Int → (Int → Int) → Prop} {F : Int → Int → Int} {L LR LN : Int → Int} (hO : sOk n D p) (h : dlA n D F L LR m k) (hk : k = sW n D 2) (hN : ∀ i, 0 ≤ i → i < m → LN i = 2) (hc : 2 ≤ D → cD p (sW n D 2) (nV n D p LW 2) F L) : lwOk LR LN m n D p (dLW n D p LW) := by
  have hW0 : ¬ 2 ≤ D → sW n D 2 = 0 := fun g => sW_big (by omega)
  have row : 2 ≤ D → ∀ r k', 0 ≤ k' → k' < sW n D 2 → (∀ j, 0 ≤ j → j < sW n D 2 → r j = F j k') → dRow p (sW n D 2) (nV n D p LW 2) k' r := fun hD r k' a b hr w w0 w1 X hX => by
    have hc := hc hD
    rw [hr w w0 w1]
    have hs := cD_sub hc
    have := nf_uniq hs (by omega) (vS_ext hs hs.1 (fun i _ _ => mE_of (by show (0 : Int) = eW w i - eW w i; omega))) (cD_F hc hO.2.2.2.1 w0 w1) hX k' a b
    exact mE_of this
  have top : 2 ≤ D → ∀ k', 0 ≤ k' → k' < sW n D 2 → (L k' = 0 ↔ ¬ hasTop p (sW n D 2) (nV n D p LW 2) k') := fun hD k' a b => by
    have e := cD_top (hc hD) a b hO.2.2.2.1
    have h01 := (hc hD).2.2.2.2.1 k' a b
    rw [e]
    omega
  refine ⟨fun i a b => ?_, fun d r hr => ?_⟩
  · obtain ⟨k', g1, g2, g3⟩ := h.1 i a b
    have hD : 2 ≤ D := Decidable.byContradiction fun g => by have := hW0 g; omega
    refine ⟨hN i a b, k', g1.1, by omega, (top hD k' g1.1 (by omega)).mp g2, row hD _ k' g1.1 (by omega) g3⟩
  · obtain ⟨e, k', g1, g2, g3, g4⟩ := hr
    subst e
    have hD : 2 ≤ D := Decidable.byContradiction fun g => by have := hW0 g; omega
    obtain ⟨i, i1, i2⟩ := h.2 k' g1 (by omega) ((top hD k' g1 g2).mpr g3)
    refine ⟨i, i1.1, i1.2, hN i i1.1 i1.2, fun j j0 j1 => ?_⟩
    rw [i2 j j0 j1]
    exact g4 j j0 j1 _ (cD_F (hc hD) hO.2.2.2.1 j0 j1)
theorem sW2_16 {n D p : Int} (hO : sOk n D p) : sW n D 2 ≤ 16 := by
  unfold sW
  split
  · obtain ⟨h0, h1⟩ := hO.1
    have hn : n = 0 ∨ n = 1 ∨ n = 2 ∨ n = 3 ∨ n = 4 := by omega
    rcases hn with rfl | rfl | rfl | rfl | rfl <;> decide
  · decide
