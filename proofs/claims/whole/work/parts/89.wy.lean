/-! ways, letter by letter: bounds and steps -/
abbrev inL (z : Int) : Prop := 0 ≤ z ∧ z ≤ 9223372036854775807
section WY
variable {L : Int → Int} {n D q : Int} {f g : Int → Int}
theorem gX_b {w : Int} (hf : inL (f w)) (hg : ∀ t, inL (g t)) : ∀ (x : Nat) (t : Int), inL (gX L n D q f w g x t)
  | 0, t => hg t
  | x + 1, t => by
    show inL ((if 0 ≤ stp L n D q w x ∧ 0 < f w then up (gX L n D q f w g x) (stp L n D q w x) (sat (gX L n D q f w g x (stp L n D q w x)) (f w)) else gX L n D q f w g x) t)
    split
    · unfold up
      split
      · exact sat_b (gX_b hf hg x _) hf
      · exact gX_b hf hg x t
    · exact gX_b hf hg x t
theorem gW_b (hf : ∀ t, inL (f t)) : ∀ (w : Nat) (t : Int), inL (gW L n D q f w t)
  | 0, _ => ⟨Int.le_refl 0, by show (0 : Int) ≤ _; decide⟩
  | w + 1, t => gX_b (hf w) (gW_b hf w) n.toNat t
theorem wy_b : ∀ (k : Nat) (t : Int), inL (wy L n D q k t)
  | 0, t => by
    show inL (if L (sS n D q + t) = 0 then 1 else 0)
    split <;> constructor <;> decide
  | k + 1, t => gW_b (wy_b k) _ t
theorem gX_no {w : Int} (hf : ¬ 0 < f w) : ∀ x : Nat, gX L n D q f w g x = g
  | 0 => rfl
  | x + 1 => by
    show (if 0 ≤ stp L n D q w x ∧ 0 < f w then up (gX L n D q f w g x) (stp L n D q w x) (sat (gX L n D q f w g x (stp L n D q w x)) (f w)) else gX L n D q f w g x) = g
    rw [if_neg (fun h => hf h.2), gX_no hf x]
theorem gX_s {w x : Int} (h : 0 ≤ x) : gX L n D q f w g (x + 1).toNat = if 0 ≤ stp L n D q w x ∧ 0 < f w then up (gX L n D q f w g x.toNat) (stp L n D q w x) (sat (gX L n D q f w g x.toNat (stp L n D q w x)) (f w)) else gX L n D q f w g x.toNat := by
  rw [show (x + 1).toNat = x.toNat + 1 by omega]
  show (if 0 ≤ stp L n D q w ((x.toNat : Nat) : Int) ∧ 0 < f w then _ else _) = _
  rw [show ((x.toNat : Nat) : Int) = x by omega]
theorem gW_s {w : Int} (h : 0 ≤ w) : gW L n D q f (w + 1).toNat = gX L n D q f w (gW L n D q f w.toNat) n.toNat := by
  rw [show (w + 1).toNat = w.toNat + 1 by omega]
  show gX L n D q f ((w.toNat : Nat) : Int) _ _ = _
  rw [show ((w.toNat : Nat) : Int) = w by omega]
theorem smS_s {w : Int} (h : 0 ≤ w) : smS f (w + 1).toNat = sat (smS f w.toNat) (f w) := by
  rw [show (w + 1).toNat = w.toNat + 1 by omega]
  show sat _ (f ((w.toNat : Nat) : Int)) = _
  rw [show ((w.toNat : Nat) : Int) = w by omega]
theorem smS_b (hf : ∀ t, inL (f t)) : ∀ w : Nat, inL (smS f w)
  | 0 => ⟨Int.le_refl 0, by show (0 : Int) ≤ _; decide⟩
  | w + 1 => sat_b (smS_b hf w) (hf w)
theorem wy_s {k : Int} (h : q ≤ k) : wy L n D q (k + 1 - q).toNat = gW L n D q (wy L n D q (k - q).toNat) (sW n D q).toNat := by
  rw [show (k + 1 - q).toNat = (k - q).toNat + 1 by omega]
  rfl
/-- equal on the places: one step in the cells -/
theorem gX_cell {W w x v : Int} {G : Int → Int} (h : 0 ≤ x) (hs : 0 ≤ stp L n D q w x) (hw : 0 < f w) (hG : ∀ t, 0 ≤ t → t < W → G t = gX L n D q f w g x.toNat t) (hst : stp L n D q w x < W) (hv : v = sat (G (stp L n D q w x)) (f w)) : ∀ t, 0 ≤ t → t < W → up G (stp L n D q w x) v t = gX L n D q f w g (x + 1).toNat t := fun t h0 h1 => by
  rw [gX_s h, if_pos ⟨hs, hw⟩]
  unfold up
  by_cases c : t = stp L n D q w x
  · rw [if_pos c, if_pos c, hv, hG _ hs hst]
  · rw [if_neg c, if_neg c]
    exact hG t h0 h1
theorem gX_cell0 {W w x : Int} {G : Int → Int} (h : 0 ≤ x) (hs : ¬ 0 ≤ stp L n D q w x) (hG : ∀ t, 0 ≤ t → t < W → G t = gX L n D q f w g x.toNat t) : ∀ t, 0 ≤ t → t < W → G t = gX L n D q f w g (x + 1).toNat t := fun t h0 h1 => by
  rw [gX_s h, if_neg (fun q => hs q.1)]
  exact hG t h0 h1
end WY
