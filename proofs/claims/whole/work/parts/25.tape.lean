/-! the tape: four bytes of a number, five numbers -/
abbrev tb (v s : Int) : Int := en_i2b (en_ishr v s)
def t4 (f : Int → Int) (T v : Int) : Int → Int := up (up (up (up f T (tb v 24)) (T + 1) (tb v 16)) (T + 1 + 1) (tb v 8)) (T + 1 + 1 + 1) (tb v 0)
def t20 (f : Int → Int) (T a b c d e : Int) : Int → Int := t4 (t4 (t4 (t4 (t4 f T a) (T + 4) b) (T + 8) c) (T + 12) d) (T + 16) e
theorem t20_eq (f : Int → Int) (T a b c d e : Int) : t4 (t4 (t4 (t4 (t4 f T a) (T + 1 + 1 + 1 + 1) b) (T + 1 + 1 + 1 + 1 + 1 + 1 + 1 + 1) c) (T + 1 + 1 + 1 + 1 + 1 + 1 + 1 + 1 + 1 + 1 + 1 + 1) d) (T + 1 + 1 + 1 + 1 + 1 + 1 + 1 + 1 + 1 + 1 + 1 + 1 + 1 + 1 + 1 + 1) e = t20 f T a b c d e := by
  unfold t20
  rw [show T + 1 + 1 + 1 + 1 + 1 + 1 + 1 + 1 + 1 + 1 + 1 + 1 + 1 + 1 + 1 + 1 = T + 16 by omega, show T + 1 + 1 + 1 + 1 + 1 + 1 + 1 + 1 + 1 + 1 + 1 + 1 = T + 12 by omega, show T + 1 + 1 + 1 + 1 + 1 + 1 + 1 + 1 = T + 8 by omega, show T + 1 + 1 + 1 + 1 = T + 4 by omega]
theorem i2b_b (x : Int) : -128 ≤ en_i2b x ∧ en_i2b x < 128 := by
  unfold en_i2b
  rw [Int.bmod_def]
  split <;> omega
theorem sG_top {f : Int → Int} {k : Int} (h0 : 0 ≤ k) (hk : ¬ f k = 0) : ∀ m : Nat, k < m → (∀ j : Int, k < j → j < m → f j = 0) → sG f m = k
  | 0, h, _ => by omega
  | m + 1, h, hz => by
    show (if f (m : Int) = 0 then sG f m else (m : Int)) = k
    by_cases e : k = (m : Int)
    · rw [← e, if_neg hk]
    · rw [if_pos (hz m (by omega) (by omega))]
      exact sG_top h0 hk m (by omega) (fun j h1 h2 => hz j h1 (by omega))
theorem sG_none {f : Int → Int} : ∀ m : Nat, (∀ j : Int, 0 ≤ j → j < m → f j = 0) → sG f m = -1
  | 0, _ => rfl
  | m + 1, hz => by
    show (if f (m : Int) = 0 then sG f m else (m : Int)) = -1
    rw [if_pos (hz m (by omega) (by omega))]
    exact sG_none m (fun j h1 h2 => hz j h1 (by omega))
theorem cpy_seg {f g h : Int → Int} {o m sp dp n : Int} (h1 : dp = o + m) (h2 : 0 ≤ m) (h3 : 0 ≤ n) (h4 : ∀ j : Int, 0 ≤ j → j < n → f (sp + j) = h (m + j)) : en_cpy f (seg g o m h) sp dp n = seg g o (m + n) h := by
  funext x
  unfold en_cpy seg
  by_cases c : dp ≤ x ∧ x < dp + n
  · rw [if_pos c, if_pos (by omega)]
    have := h4 (x - dp) (by omega) (by omega)
    rw [this, show m + (x - dp) = x - o by omega]
  · rw [if_neg c]
    by_cases c2 : o ≤ x ∧ x < o + m
    · rw [if_pos c2, if_pos (by omega)]
    · rw [if_neg c2, if_neg (by omega)]
theorem cpy_new {f g : Int → Int} {sp dp n : Int} : en_cpy f g sp dp n = seg g dp n (fun j => f (sp + j)) := by
  funext x
  unfold en_cpy seg
  rfl
theorem seg_const {f : Int → Int} {o m v : Int} (hm : 0 ≤ m) : up (seg f o m (fun _ => v)) (o + m) v = seg f o (m + 1) (fun _ => v) := seg_up hm rfl
theorem sG_bb {n D p : Int} {f : Int → Int} (h : sOk n D p) : -1 ≤ sG f (sS n D (D + 1)).toNat ∧ sG f (sS n D (D + 1)).toNat < sS n D (D + 1) := by
  have h1 := sG_b f (sS n D (D + 1)).toNat
  have h2 := sS_b (k := D + 1) h
  omega
