/-! the i-th place of a row of noughts and ones -/
theorem nth_none {f : Int → Int} (hf : ∀ x, 0 ≤ f x ∧ f x ≤ 1) {i : Int} : ∀ m : Nat, sm f m ≤ i → nth f i m = -1
  | 0, _ => rfl
  | m + 1, h => by
    have h : sm f m + f m ≤ i := h
    have h1 := hf m
    show (if nth f i m = -1 ∧ f m = 1 ∧ sm f m = i then (m : Int) else nth f i m) = -1
    rw [if_neg (by omega), nth_none hf m (by omega)]
theorem nth_some {f : Int → Int} (hf : ∀ x, 0 ≤ f x ∧ f x ≤ 1) {i : Int} (h0 : 0 ≤ i) : ∀ m : Nat, i < sm f m → (0 ≤ nth f i m ∧ nth f i m < m) ∧ f (nth f i m) = 1 ∧ sm f (nth f i m).toNat = i
  | 0, h => by have h : i < (0 : Int) := h; omega
  | m + 1, h => by
    have h : i < sm f m + f m := h
    have h1 := hf m
    show (0 ≤ (if nth f i m = -1 ∧ f m = 1 ∧ sm f m = i then (m : Int) else nth f i m) ∧ (if nth f i m = -1 ∧ f m = 1 ∧ sm f m = i then (m : Int) else nth f i m) < ((m + 1 : Nat) : Int)) ∧ f (if nth f i m = -1 ∧ f m = 1 ∧ sm f m = i then (m : Int) else nth f i m) = 1 ∧ sm f (if nth f i m = -1 ∧ f m = 1 ∧ sm f m = i then (m : Int) else nth f i m).toNat = i
    rcases Int.lt_or_le i (sm f m) with g | g
    · have ih := nth_some hf h0 m g
      rw [if_neg (by omega)]
      exact ⟨by omega, ih.2⟩
    · have e := nth_none hf (i := i) m g
      rw [if_pos ⟨e, by omega, by omega⟩]
      exact ⟨by omega, by omega, by show sm f m = i; omega⟩
theorem nth_old {f : Int → Int} (hf : ∀ x, 0 ≤ f x ∧ f x ≤ 1) {i w : Int} (h0 : 0 ≤ i) (hw : 0 ≤ w) (h : i < sm f w.toNat) : nth f i (w + 1).toNat = nth f i w.toNat := by
  have := nth_some hf h0 w.toNat h
  rw [nth_s f i hw, if_neg (by omega)]
theorem nth_new {f : Int → Int} (hf : ∀ x, 0 ≤ f x ∧ f x ≤ 1) {w : Int} (hw : 0 ≤ w) (h1 : f w = 1) : nth f (sm f w.toNat) (w + 1).toNat = w := by
  rw [nth_s f _ hw, if_pos ⟨nth_none hf _ (Int.le_refl _), h1, rfl⟩]
theorem bI_01' (P : Prop) [Decidable P] : 0 ≤ bI P ∧ bI P ≤ 1 := by rcases bI_01 P with h | h <;> omega
