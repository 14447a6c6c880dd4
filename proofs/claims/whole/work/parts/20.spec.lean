/-! THE SHAPE: letters, degree, prime; how many words of a length, where they begin -/
def sW (n D k : Int) : Int := if 0 ≤ k ∧ k ≤ D then n ^ k.toNat else 0
def sSn (n D : Int) : Nat → Int
  | 0 => 0
  | k + 1 => sSn n D k + sW n D k
def sS (n D k : Int) : Int := sSn n D k.toNat
def sPr (p : Int) : Prop := 2 ≤ p ∧ p ≤ 97 ∧ ∀ k : Int, 2 ≤ k → k < p → ¬ p % k = 0
def sOk (n D p : Int) : Prop := (0 ≤ n ∧ n ≤ 4) ∧ (1 ≤ D ∧ D ≤ 7) ∧ n ^ D.toNat ≤ 256 ∧ sPr p
theorem sW_0 {n D : Int} (h : 0 ≤ D) : sW n D 0 = 1 := by
  unfold sW
  rw [if_pos ⟨by omega, h⟩]
  show n ^ (0 : Nat) = 1
  exact Int.pow_zero n
theorem sW_big {n D k : Int} (h : D < k) : sW n D k = 0 := if_neg (by omega)
theorem sW_neg {n D k : Int} (h : k < 0) : sW n D k = 0 := if_neg (by omega)
theorem sW_in {n D k : Int} (h0 : 0 ≤ k) (h : k ≤ D) : sW n D k = n ^ k.toNat := if_pos ⟨h0, h⟩
theorem sW_succ {n D k : Int} (h0 : 0 ≤ k) (h : k < D) : sW n D (k + 1) = sW n D k * n := by
  rw [sW_in (by omega) (by omega), sW_in h0 (by omega), show (k + 1).toNat = k.toNat + 1 by omega, Int.pow_succ]
theorem sW_add {n D i j : Int} (hi : 0 ≤ i) (hj : 0 ≤ j) (h : i + j ≤ D) : sW n D (i + j) = sW n D i * sW n D j := by
  rw [sW_in (by omega) h, sW_in hi (by omega), sW_in hj (by omega), show (i + j).toNat = i.toNat + j.toNat by omega, Int.pow_add]
theorem sW_nn {n D k : Int} (h : 0 ≤ n) : 0 ≤ sW n D k := by
  unfold sW
  split
  · exact Int.pow_nonneg h
  · exact Int.le_refl 0
theorem sW_le {n D p k : Int} (h : sOk n D p) : sW n D k ≤ 256 := by
  obtain ⟨⟨h1, h2⟩, ⟨h3, h4⟩, h5, -⟩ := h
  unfold sW
  split
  · rename_i hk
    rcases Int.lt_or_le n 1 with h0 | h0
    · have : n = 0 := by omega
      subst this
      cases hkn : k.toNat with
      | zero => decide
      | succ t => rw [Int.pow_succ, Int.mul_zero]; decide
    · refine Int.le_trans ?_ h5
      have h6 : D.toNat = k.toNat + (D.toNat - k.toNat) := by omega
      rw [h6, Int.pow_add]
      have h7 : 1 ≤ n ^ (D.toNat - k.toNat) := Int.pow_pos (by omega)
      have h8 : 0 ≤ n ^ k.toNat := Int.pow_nonneg (by omega)
      calc n ^ k.toNat = n ^ k.toNat * 1 := (Int.mul_one _).symm
        _ ≤ _ := Int.mul_le_mul_of_nonneg_left h7 h8
  · decide
theorem sS_0 (n D : Int) : sS n D 0 = 0 := rfl
theorem sS_neg {n D k : Int} (h : k ≤ 0) : sS n D k = 0 := by
  unfold sS
  rw [show k.toNat = 0 by omega]
  rfl
theorem sS_succ {n D k : Int} (h : 0 ≤ k) : sS n D (k + 1) = sS n D k + sW n D k := by
  unfold sS
  rw [show (k + 1).toNat = k.toNat + 1 by omega]
  show sSn n D k.toNat + sW n D (k.toNat : Int) = _
  rw [show ((k.toNat : Nat) : Int) = k by omega]
theorem sS_mono {n D a b : Int} (hn : 0 ≤ n) (h : a ≤ b) : sS n D a ≤ sS n D b := by
  obtain ⟨t, ht⟩ : ∃ t : Nat, b = a + t := ⟨(b - a).toNat, by omega⟩
  subst ht
  clear h
  induction t with
  | zero => rw [show a + ((0 : Nat) : Int) = a by omega]; exact Int.le_refl _
  | succ t ih =>
    refine Int.le_trans ih ?_
    rcases Int.lt_or_le (a + t) 0 with h | h
    · rw [sS_neg (by omega), sS_neg (by omega)]; exact Int.le_refl _
    · rw [show a + ((t + 1 : Nat) : Int) = (a + t) + 1 by omega, sS_succ h]
      have := sW_nn (D := D) (k := a + t) hn
      omega
theorem sS_nn {n D k : Int} (hn : 0 ≤ n) : 0 ≤ sS n D k := by
  rcases Int.lt_or_le k 0 with h | h
  · rw [sS_neg (by omega)]; exact Int.le_refl _
  · rw [← sS_0 n D]; exact sS_mono hn h
theorem sOk_cases {n D p : Int} (h : sOk n D p) : (n = 0 ∧ 1 ≤ D ∧ D ≤ 7) ∨ (n = 1 ∧ 1 ≤ D ∧ D ≤ 7) ∨ (n = 2 ∧ 1 ≤ D ∧ D ≤ 7) ∨ (n = 3 ∧ 1 ≤ D ∧ D ≤ 5) ∨ (n = 4 ∧ 1 ≤ D ∧ D ≤ 4) := by
  obtain ⟨⟨h1, h2⟩, ⟨h3, h4⟩, h5, -⟩ := h
  have hn : n = 0 ∨ n = 1 ∨ n = 2 ∨ n = 3 ∨ n = 4 := by omega
  rcases hn with rfl | rfl | rfl | rfl | rfl
  · omega
  · omega
  · omega
  · have hD : D ≤ 5 ∨ D = 6 ∨ D = 7 := by omega
    rcases hD with hD | rfl | rfl
    · omega
    · exact absurd h5 (by decide)
    · exact absurd h5 (by decide)
  · have hD : D ≤ 4 ∨ D = 5 ∨ D = 6 ∨ D = 7 := by omega
    rcases hD with hD | rfl | rfl | rfl
    · omega
    · exact absurd h5 (by decide)
    · exact absurd h5 (by decide)
    · exact absurd h5 (by decide)
/-- all words, and all pairs of words of one length -/
theorem sS_le {n D p k : Int} (h : sOk n D p) : sS n D k ≤ 364 := by
  have hn : 0 ≤ n := h.1.1
  have h1 : sS n D k ≤ sS n D (max k 20) := sS_mono hn (by omega)
  have h2 : ∀ t : Nat, sS n D (8 + t) = sS n D 8 := by
    intro t
    induction t with
    | zero => rw [show (8 : Int) + ((0 : Nat) : Int) = 8 by omega]
    | succ t ih =>
      rw [show (8 : Int) + ((t + 1 : Nat) : Int) = (8 + t) + 1 by omega, sS_succ (by omega), ih, sW_big (by have := h.2.1; omega)]
      omega
  obtain ⟨t, ht⟩ : ∃ t : Nat, max k 20 = 8 + t := ⟨(max k 20 - 8).toNat, by omega⟩
  rw [ht, h2] at h1
  refine Int.le_trans h1 ?_
  rcases sOk_cases h with ⟨rfl, h3, h4⟩ | ⟨rfl, h3, h4⟩ | ⟨rfl, h3, h4⟩ | ⟨rfl, h3, h4⟩ | ⟨rfl, h3, h4⟩
  · have : D = 1 ∨ D = 2 ∨ D = 3 ∨ D = 4 ∨ D = 5 ∨ D = 6 ∨ D = 7 := by omega
    rcases this with rfl | rfl | rfl | rfl | rfl | rfl | rfl <;> decide
  · have : D = 1 ∨ D = 2 ∨ D = 3 ∨ D = 4 ∨ D = 5 ∨ D = 6 ∨ D = 7 := by omega
    rcases this with rfl | rfl | rfl | rfl | rfl | rfl | rfl <;> decide
  · have : D = 1 ∨ D = 2 ∨ D = 3 ∨ D = 4 ∨ D = 5 ∨ D = 6 ∨ D = 7 := by omega
    rcases this with rfl | rfl | rfl | rfl | rfl | rfl | rfl <;> decide
  · have : D = 1 ∨ D = 2 ∨ D = 3 ∨ D = 4 ∨ D = 5 := by omega
    rcases this with rfl | rfl | rfl | rfl | rfl <;> decide
  · have : D = 1 ∨ D = 2 ∨ D = 3 ∨ D = 4 := by omega
    rcases this with rfl | rfl | rfl | rfl <;> decide
/-- a word's place is within its length -/
theorem sS_word {n D p d w : Int} (h : sOk n D p) (h0 : 0 ≤ d) (hw : 0 ≤ w ∧ w < sW n D d) : 0 ≤ sS n D d + w ∧ sS n D d + w < sS n D (d + 1) ∧ sS n D d + w < sS n D (D + 1) ∧ sS n D d + w < 364 ∧ d ≤ D := by
  have hd : d ≤ D := by
    rcases Int.lt_or_le D d with h1 | h1
    · rw [sW_big h1] at hw; omega
    · exact h1
  have h1 := sS_nn (D := D) (k := d) h.1.1
  have h2 := sS_succ (n := n) (D := D) h0
  have h3 := sS_le (k := d + 1) h
  have h4 := sS_mono (D := D) h.1.1 (show d + 1 ≤ D + 1 by omega)
  omega
/-- the rest of a whole number by the prime -/
theorem sR_lt {p z : Int} (h : sPr p) : 0 ≤ z % p ∧ z % p < p := ⟨Int.emod_nonneg _ (by have := h.1; omega), Int.emod_lt_of_pos _ (by have := h.1; omega)⟩
theorem sW_b {n D p k : Int} (h : sOk n D p) : 0 ≤ sW n D k ∧ sW n D k ≤ 256 := ⟨sW_nn h.1.1, sW_le h⟩
theorem sS_b {n D p k : Int} (h : sOk n D p) : 0 ≤ sS n D k ∧ sS n D k ≤ 364 := ⟨sS_nn h.1.1, sS_le h⟩
/-- the length of the word at a place -/
def sLn (n D x : Int) : Nat → Int
  | 0 => 0
  | k + 1 => sLn n D x k + (if (k : Int) + 1 ≤ D ∧ sS n D (k + 1) ≤ x then 1 else 0)
def sL (n D x : Int) : Int := sLn n D x 7
theorem sLn_low {n D x d : Int} (hn : 0 ≤ n) (h1 : ∀ j : Int, 1 ≤ j → j ≤ d → sS n D j ≤ x) (hd : d ≤ D) : ∀ k : Nat, (k : Int) ≤ d → sLn n D x k = k := by
  intro k
  induction k with
  | zero => intro _; rfl
  | succ k ih =>
    intro hk
    show sLn n D x k + _ = _
    rw [ih (by omega), if_pos ⟨by omega, h1 _ (by omega) (by omega)⟩]
    omega
theorem sL_eq {n D x d : Int} (hn : 0 ≤ n) (hD : D ≤ 7) (h0 : 0 ≤ d) (hd : d ≤ D) (h1 : d = 0 ∨ sS n D d ≤ x) (h2 : d = D ∨ x < sS n D (d + 1)) : sL n D x = d := by
  have hlow : ∀ j : Int, 1 ≤ j → j ≤ d → sS n D j ≤ x := by
    intro j hj1 hj2
    rcases h1 with h1 | h1
    · omega
    · exact Int.le_trans (sS_mono hn hj2) h1
  have key : ∀ t : Nat, d.toNat + t ≤ 7 → sLn n D x (d.toNat + t) = d := by
    intro t
    induction t with
    | zero =>
      intro _
      rw [Nat.add_zero, sLn_low hn hlow hd d.toNat (by omega)]
      omega
    | succ t ih =>
      intro ht
      have hneg : ¬ (((d.toNat + t : Nat) : Int) + 1 ≤ D ∧ sS n D (((d.toNat + t : Nat) : Int) + 1) ≤ x) := by
        rintro ⟨h3, h4⟩
        rcases h2 with h2 | h2
        · omega
        · have := sS_mono (D := D) hn (show d + 1 ≤ ((d.toNat + t : Nat) : Int) + 1 by omega)
          omega
      show sLn n D x (d.toNat + t) + (if ((d.toNat + t : Nat) : Int) + 1 ≤ D ∧ sS n D (((d.toNat + t : Nat) : Int) + 1) ≤ x then 1 else 0) = d
      rw [ih (by omega), if_neg hneg]
      omega
  unfold sL
  have := key (7 - d.toNat) (by omega)
  rw [show d.toNat + (7 - d.toNat) = 7 by omega] at this
  exact this
theorem sL_word {n D p d w : Int} (h : sOk n D p) (h0 : 0 ≤ d) (hw : 0 ≤ w ∧ w < sW n D d) : sL n D (sS n D d + w) = d := by
  obtain ⟨h1, h2, h3, h4, h5⟩ := sS_word h h0 hw
  exact sL_eq h.1.1 h.2.1.2 h0 h5 (Or.inr (by omega)) (Or.inr h2)
theorem sL_ex {n D p x : Int} (h : sOk n D p) (h0 : 0 ≤ x) (hx : x < sS n D (D + 1)) : ∃ d w : Int, 0 ≤ d ∧ d ≤ D ∧ 0 ≤ w ∧ w < sW n D d ∧ x = sS n D d + w := by
  have key : ∀ k : Nat, (k : Int) ≤ D + 1 → x < sS n D k → ∃ d w : Int, 0 ≤ d ∧ d ≤ D ∧ 0 ≤ w ∧ w < sW n D d ∧ x = sS n D d + w := by
    intro k
    induction k with
    | zero => intro _ hx; rw [show ((0 : Nat) : Int) = 0 from rfl, sS_0] at hx; omega
    | succ k ih =>
      intro hk hx
      rcases Int.lt_or_le x (sS n D k) with h1 | h1
      · exact ih (by omega) h1
      · have h2 := sS_succ (n := n) (D := D) (k := (k : Int)) (by omega)
        rw [show ((k + 1 : Nat) : Int) = (k : Int) + 1 by omega, h2] at hx
        exact ⟨k, x - sS n D k, by omega, by omega, by omega, by omega, by omega⟩
  have hD := h.2.1.1
  refine key (D + 1).toNat (by omega) ?_
  rw [show (((D + 1).toNat : Nat) : Int) = D + 1 by omega]
  exact hx
/-- counted and greatest places that are not 0 -/
def sC (f : Int → Int) : Nat → Int
  | 0 => 0
  | k + 1 => sC f k + (if f k = 0 then 0 else 1)
def sG (f : Int → Int) : Nat → Int
  | 0 => -1
  | k + 1 => if f k = 0 then sG f k else k
theorem sC_b (f : Int → Int) : ∀ k : Nat, 0 ≤ sC f k ∧ sC f k ≤ k
  | 0 => ⟨Int.le_refl 0, Int.le_refl 0⟩
  | k + 1 => by
    have := sC_b f k
    show 0 ≤ sC f k + _ ∧ sC f k + _ ≤ _
    split <;> omega
theorem sG_b (f : Int → Int) : ∀ k : Nat, -1 ≤ sG f k ∧ sG f k < k
  | 0 => ⟨Int.le_refl _, by show (-1 : Int) < 0; decide⟩
  | k + 1 => by
    have := sG_b f k
    show -1 ≤ (if f k = 0 then sG f k else (k : Int)) ∧ (if f k = 0 then sG f k else (k : Int)) < ((k + 1 : Nat) : Int)
    split <;> omega
theorem sC_s (f : Int → Int) {k : Int} (h : 0 ≤ k) : sC f (k + 1).toNat = sC f k.toNat + (if f k = 0 then 0 else 1) := by
  rw [show (k + 1).toNat = k.toNat + 1 by omega]
  show sC f k.toNat + (if f ((k.toNat : Nat) : Int) = 0 then 0 else 1) = _
  rw [show ((k.toNat : Nat) : Int) = k by omega]
theorem sG_s (f : Int → Int) {k : Int} (h : 0 ≤ k) : sG f (k + 1).toNat = if f k = 0 then sG f k.toNat else k := by
  rw [show (k + 1).toNat = k.toNat + 1 by omega]
  show (if f ((k.toNat : Nat) : Int) = 0 then sG f k.toNat else ((k.toNat : Nat) : Int)) = _
  rw [show ((k.toNat : Nat) : Int) = k by omega]
/-- cells that hold small numbers -/
def R97 (f : Int → Int) : Prop := ∀ x : Int, 0 ≤ f x ∧ f x < 97
def R01 (f : Int → Int) : Prop := ∀ x : Int, f x = 0 ∨ f x = 1
theorem R97_up {f : Int → Int} {i v : Int} (h : R97 f) (hv : 0 ≤ v ∧ v < 97) : R97 (up f i v) := by
  intro x
  unfold up
  split
  · exact hv
  · exact h x
theorem R01_up {f : Int → Int} {i v : Int} (h : R01 f) (hv : v = 0 ∨ v = 1) : R01 (up f i v) := by
  intro x
  unfold up
  split
  · exact hv
  · exact h x
theorem up_eq (f : Int → Int) (i v : Int) : up f i v i = v := if_pos rfl
theorem up_ne {f : Int → Int} {i v j : Int} (h : j ≠ i) : up f i v j = f j := if_neg h
theorem sL_b (n D x : Int) : 0 ≤ sL n D x ∧ sL n D x ≤ 7 := by
  have key : ∀ k : Nat, 0 ≤ sLn n D x k ∧ sLn n D x k ≤ k := by
    intro k
    induction k with
    | zero => exact ⟨Int.le_refl 0, Int.le_refl 0⟩
    | succ k ih =>
      show 0 ≤ sLn n D x k + _ ∧ sLn n D x k + _ ≤ _
      split <;> omega
  exact key 7
/-- a stretch of cells rewritten -/
def seg (f : Int → Int) (o m : Int) (g : Int → Int) : Int → Int := fun x => if o ≤ x ∧ x < o + m then g (x - o) else f x
theorem seg_0 (f : Int → Int) (o : Int) (g : Int → Int) : seg f o 0 g = f := by
  funext x
  unfold seg
  rw [if_neg (by omega)]
theorem seg_up {f : Int → Int} {o k v : Int} {g : Int → Int} (hk : 0 ≤ k) (hv : v = g k) : up (seg f o k g) (o + k) v = seg f o (k + 1) g := by
  funext x
  unfold up seg
  by_cases h : x = o + k
  · subst h
    rw [if_pos rfl, if_pos (by omega), hv, show o + k - o = k by omega]
  · rw [if_neg h]
    by_cases h2 : o ≤ x ∧ x < o + k
    · rw [if_pos h2, if_pos (by omega)]
    · rw [if_neg h2, if_neg (by omega)]
theorem seg_up0 {f : Int → Int} {k v : Int} {g : Int → Int} (hk : 0 ≤ k) (hv : v = g k) : up (seg f 0 k g) k v = seg f 0 (k + 1) g := by
  have := seg_up (f := f) (o := 0) hk hv
  rw [Int.zero_add] at this
  exact this
theorem seg_in {f : Int → Int} {o m : Int} {g : Int → Int} {k : Int} (h : 0 ≤ k ∧ k < m) : seg f o m g (o + k) = g k := by
  unfold seg
  rw [if_pos (by omega), show o + k - o = k by omega]
theorem seg_in0 {f : Int → Int} {m : Int} {g : Int → Int} {k : Int} (h : 0 ≤ k ∧ k < m) : seg f 0 m g k = g k := by
  have := seg_in (f := f) (o := 0) (g := g) h
  rw [Int.zero_add] at this
  exact this
theorem seg_out {f : Int → Int} {o m : Int} {g : Int → Int} {x : Int} (h : ¬ (o ≤ x ∧ x < o + m)) : seg f o m g x = f x := if_neg h
theorem R97_seg {f : Int → Int} {o m : Int} {g : Int → Int} (h : R97 f) (hg : ∀ k : Int, 0 ≤ k → k < m → 0 ≤ g k ∧ g k < 97) : R97 (seg f o m g) := by
  intro x
  unfold seg
  split
  · exact hg _ (by omega) (by omega)
  · exact h x
theorem R01_seg {f : Int → Int} {o m : Int} {g : Int → Int} (h : R01 f) (hg : ∀ k : Int, 0 ≤ k → k < m → g k = 0 ∨ g k = 1) : R01 (seg f o m g) := by
  intro x
  unfold seg
  split
  · exact hg _ (by omega) (by omega)
  · exact h x
def sCode (n D x : Int) : Int := 1000 * sL n D x + x - sS n D (sL n D x)
theorem m97 {a b : Int} (ha : 0 ≤ a ∧ a < 97) (hb : 0 ≤ b ∧ b < 97) : 0 ≤ a * b ∧ a * b ≤ 9216 := by
  refine ⟨Int.mul_nonneg ha.1 hb.1, ?_⟩
  calc a * b ≤ 96 * b := Int.mul_le_mul_of_nonneg_right (by omega) hb.1
    _ ≤ 96 * 96 := Int.mul_le_mul_of_nonneg_left (by omega) (by decide)
/-- where the square of a length begins -/
def sQn (n D : Int) : Nat → Int
  | 0 => 0
  | k + 1 => sQn n D k + sW n D k * sW n D k
def sQ (n D k : Int) : Int := sQn n D k.toNat
theorem sQ_0 (n D : Int) : sQ n D 0 = 0 := rfl
theorem sQ_succ {n D k : Int} (h : 0 ≤ k) : sQ n D (k + 1) = sQ n D k + sW n D k * sW n D k := by
  unfold sQ
  rw [show (k + 1).toNat = k.toNat + 1 by omega]
  show sQn n D k.toNat + sW n D (k.toNat : Int) * sW n D (k.toNat : Int) = _
  rw [show ((k.toNat : Nat) : Int) = k by omega]
theorem sQ_mono {n D a b : Int} (hn : 0 ≤ n) (ha : 0 ≤ a) (h : a ≤ b) : sQ n D a ≤ sQ n D b := by
  obtain ⟨t, ht⟩ : ∃ t : Nat, b = a + t := ⟨(b - a).toNat, by omega⟩
  subst ht
  clear h
  induction t with
  | zero => rw [show a + ((0 : Nat) : Int) = a by omega]; exact Int.le_refl _
  | succ t ih =>
    refine Int.le_trans ih ?_
    rw [show a + ((t + 1 : Nat) : Int) = (a + t) + 1 by omega, sQ_succ (by omega)]
    have := Int.mul_nonneg (sW_nn (D := D) (k := a + t) hn) (sW_nn (D := D) (k := a + t) hn)
    omega
theorem sQ_le {n D p : Int} (h : sOk n D p) : sQ n D (D + 1) ≤ 69905 := by
  rcases sOk_cases h with ⟨rfl, h3, h4⟩ | ⟨rfl, h3, h4⟩ | ⟨rfl, h3, h4⟩ | ⟨rfl, h3, h4⟩ | ⟨rfl, h3, h4⟩
  · have : D = 1 ∨ D = 2 ∨ D = 3 ∨ D = 4 ∨ D = 5 ∨ D = 6 ∨ D = 7 := by omega
    rcases this with rfl | rfl | rfl | rfl | rfl | rfl | rfl <;> decide
  · have : D = 1 ∨ D = 2 ∨ D = 3 ∨ D = 4 ∨ D = 5 ∨ D = 6 ∨ D = 7 := by omega
    rcases this with rfl | rfl | rfl | rfl | rfl | rfl | rfl <;> decide
  · have : D = 1 ∨ D = 2 ∨ D = 3 ∨ D = 4 ∨ D = 5 ∨ D = 6 ∨ D = 7 := by omega
    rcases this with rfl | rfl | rfl | rfl | rfl | rfl | rfl <;> decide
  · have : D = 1 ∨ D = 2 ∨ D = 3 ∨ D = 4 ∨ D = 5 := by omega
    rcases this with rfl | rfl | rfl | rfl | rfl <;> decide
  · have : D = 1 ∨ D = 2 ∨ D = 3 ∨ D = 4 := by omega
    rcases this with rfl | rfl | rfl | rfl <;> decide
theorem sq_in {W k j : Int} (hk : 0 ≤ k ∧ k < W) (hj : 0 ≤ j ∧ j < W) : 0 ≤ k * W + j ∧ k * W + j < W * W := by
  have h1 : 0 ≤ k * W := Int.mul_nonneg hk.1 (by omega)
  have h2 : k * W ≤ (W - 1) * W := Int.mul_le_mul_of_nonneg_right (by omega) (by omega)
  have h3 : (W - 1) * W = W * W - W := by rw [Int.sub_mul, Int.one_mul]
  omega
theorem sQ_in {n D p d k j : Int} (h : sOk n D p) (hd : 0 ≤ d) (hk : 0 ≤ k ∧ k < sW n D d) (hj : 0 ≤ j ∧ j < sW n D d) : 0 ≤ sQ n D d ∧ 0 ≤ sQ n D d + k * sW n D d + j ∧ sQ n D d + k * sW n D d + j < 69905 ∧ 0 ≤ k * sW n D d := by
  have hdD : d ≤ D := by
    rcases Int.lt_or_le D d with h1 | h1
    · rw [sW_big h1] at hk; omega
    · exact h1
  have h1 := sq_in hk hj
  have h2 := sQ_succ (n := n) (D := D) hd
  have h3 := sQ_mono (n := n) (D := D) h.1.1 (show 0 ≤ d + 1 by omega) (show d + 1 ≤ D + 1 by omega)
  have h4 := sQ_le h
  have h5 := sQ_mono (n := n) (D := D) h.1.1 (Int.le_refl 0) hd
  rw [sQ_0] at h5
  have h6 : 0 ≤ k * sW n D d := Int.mul_nonneg hk.1 (by omega)
  omega
/-- sets of rows that hold sums and multiples, whatever the rests -/
def vSub (p W : Int) (V : (Int → Int) → Prop) : Prop := V (fun _ => 0) ∧ (∀ a b c, V a → V b → V (fun j => a j + c * b j)) ∧ ∀ a b, (∀ j, 0 ≤ j → j < W → (a j - b j) % p = 0) → V a → V b
theorem sS_top {n D p k : Int} (h : sOk n D p) (hk : D + 1 ≤ k) : sS n D k = sS n D (D + 1) := by
  have hD := h.2.1.1
  obtain ⟨t, ht⟩ : ∃ t : Nat, k = D + 1 + t := ⟨(k - (D + 1)).toNat, by omega⟩
  subst ht
  clear hk
  induction t with
  | zero => rw [show D + 1 + ((0 : Nat) : Int) = D + 1 by omega]
  | succ t ih =>
    rw [show D + 1 + ((t + 1 : Nat) : Int) = (D + 1 + t) + 1 by omega, sS_succ (by omega), ih, sW_big (by omega)]
    omega
/-- rests by a prime have inverses (all primes up to 97, looked through) -/
def pr_ok (p : Nat) : Bool := (List.range p).all (fun v => Nat.beq v 0 || (List.range p).any (fun i => Nat.ble 1 i && Nat.beq (i * v % p) 1))
def pr_is (p : Nat) : Bool := Nat.ble 2 p && (List.range p).all (fun k => Nat.ble k 1 || !Nat.beq (p % k) 0)
set_option maxRecDepth 100000 in
theorem pr_all : (List.range 98).all (fun p => !pr_is p || pr_ok p) = true := by decide +kernel
theorem pr_inv {p v : Int} (hp : sPr p) (h0 : 1 ≤ v) (h1 : v < p) : ∃ i : Int, 1 ≤ i ∧ i < p ∧ (i * v) % p = 1 := by
  obtain ⟨h2, h3, h4⟩ := hp
  obtain ⟨q, rfl⟩ : ∃ q : Nat, p = q := ⟨p.toNat, by omega⟩
  obtain ⟨u, rfl⟩ : ∃ u : Nat, v = u := ⟨v.toNat, by omega⟩
  have hk := List.all_eq_true.mp pr_all q (List.mem_range.mpr (by omega))
  have his : pr_is q = true := by
    unfold pr_is
    simp only [Bool.and_eq_true, List.all_eq_true, List.mem_range, Bool.or_eq_true, Bool.not_eq_true']
    refine ⟨Nat.ble_eq_true_of_le (by omega), fun k hk => ?_⟩
    by_cases hk1 : k ≤ 1
    · exact Or.inl (Nat.ble_eq_true_of_le hk1)
    · refine Or.inr ?_
      cases e : Nat.beq (q % k) 0 with
      | false => rfl
      | true =>
        have e := Nat.eq_of_beq_eq_true e
        exact absurd (by omega : (q : Int) % (k : Int) = 0) (h4 k (by omega) (by omega))
  rw [his] at hk
  have hk : pr_ok q = true := by simpa using hk
  unfold pr_ok at hk
  have h5 := List.all_eq_true.mp hk u (List.mem_range.mpr (by omega))
  simp only [Bool.or_eq_true, List.any_eq_true, Bool.and_eq_true, List.mem_range] at h5
  rcases h5 with h5 | ⟨i, hi, h6, h7⟩
  · have := Nat.eq_of_beq_eq_true h5
    omega
  · have h6 := Nat.le_of_ble_eq_true h6
    have h7 := Nat.eq_of_beq_eq_true h7
    refine ⟨i, by omega, by omega, ?_⟩
    have : ((i * u % q : Nat) : Int) = 1 := by rw [h7]; rfl
    rw [← this]
    simp
theorem sS_ib {n D p d : Int} (h : sOk n D p) : 0 ≤ (if 0 ≤ d ∧ d ≤ 7 then sS n D d else 0) ∧ (if 0 ≤ d ∧ d ≤ 7 then sS n D d else 0) ≤ 364 := by
  have := sS_b (k := d) h
  split <;> omega
