/-! chains: how many of so many steps and letters end in a word -/
abbrev okC (L : Int → Int) (n D i j : Int) : Prop := (1 ≤ sL n D i ∧ 1 ≤ sL n D j ∧ sL n D i + sL n D j ≤ D) ∧ L j = 0 ∧ okE L n D (sL n D i + sL n D j) (bAt n D i j - sS n D (sL n D i + sL n D j))
def chS (L : Int → Int) (n D : Int) : Nat → Int → Int → Int
  | 0, t, i => if t = 1 ∧ sL n D i = 1 ∧ L i = 0 then 1 else 0
  | s + 1, t, j => sm (fun i => if okC L n D i j then chS L n D s (t - sL n D j) i else 0) (sS n D (D + 1)).toNat
def chP (L : Int → Int) (n D : Int) (s : Nat) (t j l i : Int) : Int := sm (fun i => if okC L n D i j then chS L n D s (t - sL n D j) i else 0) (if t - sL n D j < l then sS n D (D + 1) else if t - sL n D j = l then i else 0).toNat
section CHS
variable {L : Int → Int} {n D p : Int}
theorem ch_b (hO : sOk n D p) : ∀ (s : Nat) (t i : Int), 0 ≤ chS L n D s t i ∧ chS L n D s t i ≤ 364 ^ s
  | 0, t, i => by
    show 0 ≤ (if t = 1 ∧ sL n D i = 1 ∧ L i = 0 then (1 : Int) else 0) ∧ (if t = 1 ∧ sL n D i = 1 ∧ L i = 0 then (1 : Int) else 0) ≤ 1
    split <;> decide
  | s + 1, t, j => by
    have hS := sS_b (k := D + 1) hO
    have hp : (0 : Int) ≤ 364 ^ s := Int.pow_nonneg (by decide)
    have h := sm_b (f := fun i => if okC L n D i j then chS L n D s (t - sL n D j) i else 0) (B := 364 ^ s) (sS n D (D + 1)).toNat (fun i _ _ => by
      have := ch_b hO s (t - sL n D j) i
      split
      · exact this
      · exact ⟨Int.le_refl 0, hp⟩)
    refine ⟨h.1, Int.le_trans h.2 ?_⟩
    rw [Int.pow_succ, Int.mul_comm (364 ^ s)]
    exact Int.mul_le_mul_of_nonneg_right (by omega) hp
theorem ch_neg : ∀ (s : Nat) (t i : Int), t ≤ 0 → chS L n D s t i = 0
  | 0, t, i, h => if_neg (by omega)
  | s + 1, t, j, h => sm_zero _ (fun i _ _ => by
    have := (sL_b n D j).1
    rw [ch_neg s (t - sL n D j) i (by omega)]
    split <;> rfl)
theorem ch_z : ∀ (s : Nat) (t j : Int), t < sL n D j → chS L n D s t j = 0
  | 0, t, i, h => if_neg (by omega)
  | s + 1, t, j, h => sm_zero _ (fun i _ _ => by
    rw [ch_neg s (t - sL n D j) i (by omega)]
    split <;> rfl)
theorem ok_0 (hO : sOk n D p) {j : Int} : ¬ okC L n D 0 j := fun h => by
  have : sL n D 0 = 0 := sL_eq hO.1.1 hO.2.1.2 (Int.le_refl 0) (by have := hO.2.1.1; omega) (.inl rfl) (.inr (by rw [sS_succ (Int.le_refl 0), sS_0, sW_0 (by have := hO.2.1.1; omega)]; decide))
  have := h.1.1; omega
theorem chP_0 (hO : sOk n D p) (s : Nat) (t j : Int) : chP L n D s t j 1 1 = 0 := by
  unfold chP
  refine sm_zero _ (fun i a b => ?_)
  by_cases g : t - sL n D j < 1
  · rw [ch_neg s _ i (by omega)]; split <;> rfl
  · rw [if_neg g] at b
    by_cases c : t - sL n D j = 1
    · rw [if_pos c] at b
      rw [show i = 0 by omega, if_neg (ok_0 hO)]
    · rw [if_neg c] at b; omega
theorem chP_i {s : Nat} {t j l i : Int} (hi : 0 ≤ i) : chP L n D s t j l (i + 1) = chP L n D s t j l i + (if t - sL n D j = l ∧ okC L n D i j then chS L n D s l i else 0) := by
  unfold chP
  by_cases g : t - sL n D j < l
  · rw [if_pos g, if_pos g, if_neg (by omega), Int.add_zero]
  · rw [if_neg g, if_neg g]
    by_cases c : t - sL n D j = l
    · rw [if_pos c, if_pos c, sm_s _ hi]
      by_cases d : okC L n D i j
      · rw [if_pos d, if_pos ⟨c, d⟩, c]
      · rw [if_neg d, if_neg (fun q => d q.2)]
    · rw [if_neg c, if_neg c, if_neg (fun q => c q.1), Int.add_zero]
theorem chP_l (hO : sOk n D p) {s : Nat} {t j l i : Int} (hi : 0 ≤ i ∧ i ≤ sS n D (D + 1)) (hz : ∀ x, i ≤ x → x < sS n D (D + 1) → chS L n D s l x = 0) : chP L n D s t j (l + 1) 1 = chP L n D s t j l i := by
  unfold chP
  by_cases g : t - sL n D j < l
  · rw [if_pos g, if_pos (by omega)]
  · rw [if_neg g]
    by_cases c : t - sL n D j = l
    · rw [if_pos c, if_pos (by omega), c, show (sS n D (D + 1)).toNat = i.toNat + (sS n D (D + 1) - i).toNat by omega, sm_cat, sm_zero (sS n D (D + 1) - i).toNat (fun x a b => by
        rw [hz _ (by omega) (by omega)]; split <;> rfl), Int.add_zero]
    · rw [if_neg c, if_neg (by omega)]
      refine sm_zero _ (fun x a b => ?_)
      by_cases d : t - sL n D j = l + 1
      · rw [if_pos d] at b
        rw [show x = 0 by omega, if_neg (ok_0 hO)]
      · rw [if_neg d] at b; omega
theorem chP_fin {s : Nat} {t j l i : Int} (h : sL n D j = 0 ∨ t - sL n D j < l) : chP L n D s t j l i = chS L n D (s + 1) t j := by
  show _ = sm (fun i => if okC L n D i j then chS L n D s (t - sL n D j) i else 0) (sS n D (D + 1)).toNat
  unfold chP
  rcases h with h | h
  · have e : ∀ m : Nat, sm (fun i => if okC L n D i j then chS L n D s (t - sL n D j) i else 0) m = 0 := fun m => sm_zero m (fun i _ _ => if_neg (fun q => by have := q.1.2.1; omega))
    rw [e, e]
  · rw [if_pos h]
theorem chP_j0 {s : Nat} {t j l i i' : Int} (h : sL n D j = 0) : chP L n D s t j l i = chP L n D s t j l i' := by
  rw [chP_fin (.inl h), chP_fin (.inl h)]
theorem ok_w (hO : sOk n D p) {e f u v : Int} (he : 1 ≤ e) (hf : 1 ≤ f) (hu : 0 ≤ u ∧ u < sW n D e) (hv : 0 ≤ v ∧ v < sW n D f) : okC L n D (sS n D e + u) (sS n D f + v) ↔ e + f ≤ D ∧ L (sS n D f + v) = 0 ∧ okE L n D (e + f) (u * sW n D f + v) := by
  unfold okC
  rw [sL_word hO (by omega) hu, sL_word hO (by omega) hv, bAt_w hO (by omega) (by omega) hu hv, show sS n D (e + f) + u * sW n D f + v - sS n D (e + f) = u * sW n D f + v by omega]
  constructor
  · rintro ⟨⟨_, _, a⟩, b, c⟩; exact ⟨a, b, c⟩
  · rintro ⟨a, b, c⟩; exact ⟨⟨he, hf, a⟩, b, c⟩
end CHS
