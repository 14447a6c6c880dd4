/-! a row lessened by a multiple of the new one -/
theorem el_row {p m w nn c r g b : Int} {S X Y : Int → Int → Int} (hp : sPr p) (h : elR p S X m w nn c r) (hr : nn < r ∧ r < m) (hn : 0 ≤ nn) (hc : 0 ≤ c ∧ c < w) (hb : (S nn c * b) % p = 1) (hg : g = (X r c * b) % p)
    (hz : ∀ j, 0 ≤ j → j < c → S nn j = 0) (hY : ∀ i j, 0 ≤ i → i < m → 0 ≤ j → j < w → Y i j = if i = r ∧ c ≤ j then (X r j - g * X nn j) % p else X i j) : elR p S Y m w nn c (r + 1) := by
  have hnn := (h nn hn (by omega)).2.2 (by omega)
  obtain ⟨b1, -, hrr⟩ := h r (by omega) hr.2
  have hrr := hrr (by omega)
  have mb : ∀ z : Int, 0 ≤ z % p ∧ z % p < p := fun z => sR_lt hp
  have e1 : ∀ j, 0 ≤ j → j < c → Y r j = S r j := fun j a0 a1 => by rw [hY r j (by omega) hr.2 a0 (by omega), if_neg (by omega)]; exact hrr j a0 (by omega)
  refine elR_s (F := g) h hr hn hc (fun i a b q j a0 a1 => by rw [hY i j a b a0 a1, if_neg (fun g => q g.1)]) (fun j a0 a1 => ?_) (fun j a0 a1 => ?_) e1 ?_
  · rw [hY r j (by omega) hr.2 a0 a1]
    split
    · exact mb _
    · exact b1 j a0 a1
  · by_cases q : j < c
    · rw [e1 j a0 q, hz j a0 q, Int.mul_zero, Int.sub_zero]; exact mE_rfl p _
    · rw [hY r j (by omega) hr.2 a0 a1, if_pos ⟨rfl, by omega⟩, ← hrr j a0 a1, ← hnn j a0 a1]
      exact mE_emod p _
  · rw [hY r c (by omega) hr.2 hc.1 hc.2, if_pos ⟨rfl, Int.le_refl _⟩]
    refine mE_z.mp ?_
    rw [hnn c hc.1 hc.2, hg]
    have h1 : mE p (S nn c * b) 1 := mE_ofmod (by rw [hb, Int.emod_eq_of_lt (by decide) (by have := hp.1; omega)])
    have h2 : mE p ((X r c * b) % p * S nn c) (X r c * b * S nn c) := mE_mul (mE_emod p _) (mE_rfl p _)
    have h3 := mE_mul (mE_rfl p (X r c)) h1
    have h4 := mE_sub (mE_rfl p (X r c)) (mE_trans h2 (mE_trans (mE_of (show X r c * b * S nn c = X r c * (S nn c * b) by grind)) h3))
    exact mE_trans h4 (mE_of (by omega))
/-- two rows change places, so far -/
theorem sw_step {X Y : Int → Int} {w nn f k m : Int} (hw : 0 ≤ k ∧ k < w) (hn : 0 ≤ nn ∧ nn < m) (hf : 0 ≤ f ∧ f < m) (h : ∀ i j, 0 ≤ i → i < m → 0 ≤ j → j < w → Y (w * i + j) = if j < k then X (w * swp nn f i + j) else X (w * i + j)) :
    ∀ i j, 0 ≤ i → i < m → 0 ≤ j → j < w → up (up Y (w * nn + k) (Y (w * f + k))) (w * f + k) (Y (w * nn + k)) (w * i + j) = if j < k + 1 then X (w * swp nn f i + j) else X (w * i + j) := fun i j a b a0 a1 => by
  have h1 := h f k hf.1 hf.2 hw.1 hw.2
  have h2 := h nn k hn.1 hn.2 hw.1 hw.2
  rw [if_neg (by omega)] at h1 h2
  rw [up_ix hw ⟨a0, a1⟩, up_ix hw ⟨a0, a1⟩, h1, h2]
  by_cases g : j = k
  · subst g
    rw [if_pos (show j < j + 1 by omega)]
    unfold swp
    by_cases g1 : i = nn
    · by_cases g2 : i = f
      · rw [if_pos ⟨g2, rfl⟩, if_pos g1, ← g2, g1]
      · rw [if_neg (fun q => g2 q.1), if_pos ⟨g1, rfl⟩, if_pos g1]
    · by_cases g2 : i = f
      · rw [if_pos ⟨g2, rfl⟩, if_neg g1, if_pos g2]
      · rw [if_neg (fun q => g2 q.1), if_neg (fun q => g1 q.1), if_neg g1, if_neg g2, h i j a b a0 a1, if_neg (by omega)]
  · rw [if_neg (fun q => g q.2), if_neg (fun q => g q.2), h i j a b a0 a1]
    by_cases g3 : j < k
    · rw [if_pos g3, if_pos (by omega)]
    · rw [if_neg g3, if_neg (by omega)]
theorem swp_b {nn f i m : Int} (hn : 0 ≤ nn ∧ nn < m) (hf : 0 ≤ f ∧ f < m) (hi : 0 ≤ i ∧ i < m) : 0 ≤ swp nn f i ∧ swp nn f i < m := by
  unfold swp
  split
  · exact hf
  · split
    · exact hn
    · exact hi
