/-! bytes, packs of names -/
theorem ia_255 (z : Int) : 0 ≤ en_iand z 255 ∧ en_iand z 255 ≤ 255 := by
  show 0 ≤ (Int32.ofInt z &&& Int32.ofInt 255).toBitVec.toInt ∧ (Int32.ofInt z &&& Int32.ofInt 255).toBitVec.toInt ≤ 255
  have e : (Int32.ofInt z &&& Int32.ofInt 255).toBitVec.toNat ≤ 255 := by
    rw [Int32.toBitVec_and, BitVec.toNat_and]
    exact Nat.le_trans Nat.and_le_right (by decide)
  rw [BitVec.toInt_eq_toNat_of_lt (by omega)]
  omega
theorem w64_id {z : Int} (h : i64 z) : w64 z = z := by
  have := h.1
  have := h.2
  unfold w64
  exact Int.bmod_eq_of_le (by omega) (by omega)
theorem w64_i (z : Int) : i64 (w64 z) := by
  unfold w64
  have h1 := Int.le_bmod (x := z) (m := 18446744073709551616) (by decide)
  have h2 := Int.bmod_lt (x := z) (m := 18446744073709551616) (by decide)
  exact ⟨by omega, by omega⟩
theorem wf_b {x : Int} {b : Int → Int} {i : Int} (hx : 27 ≤ x) : ∀ m : Nat, (∀ j : Int, 0 ≤ j → j < m → isLe (b (i + j))) → 0 ≤ wf x b i m ∧ wf x b i m < x ^ m
  | 0, _ => ⟨Int.le_refl 0, by rw [Int.pow_zero]; show (0 : Int) < 1; decide⟩
  | m + 1, h => by
    have g := wf_b (i := i) (b := b) hx m (fun j a c => h j a (by omega))
    have k := h m (by omega) (by omega)
    unfold isLe at k
    show 0 ≤ x * wf x b i m + (b (i + m) - 96) ∧ x * wf x b i m + (b (i + m) - 96) < x ^ (m + 1)
    rw [Int.pow_succ, Int.mul_comm (x ^ m) x]
    have e1 := Int.mul_nonneg (show 0 ≤ x by omega) g.1
    have e2 : x * wf x b i m + x * 1 ≤ x * x ^ m := by rw [← Int.mul_add]; exact Int.mul_le_mul_of_nonneg_left (by omega) (by omega)
    omega
theorem pk_s {a c : Int} (ha : 0 ≤ a ∧ a < 1099511627776) : en_lshl a 5 + (c - 97 + 1) = 32 * a + (c - 96) := by
  rw [shl5, w64_id ⟨by omega, by omega⟩]
  omega
theorem pk_w {b : Int → Int} {i e : Int} {a : Int} (he : i ≤ e) (hl : ∀ j, i ≤ j → j < e → isLe (b j)) (h : e - i ≤ 8 → a = wf 32 b i (e - i).toNat) (h9 : e + 1 - i ≤ 8) : en_lshl a 5 + (b e - 97 + 1) = wf 32 b i (e + 1 - i).toNat := by
  have g := wf_b (x := 32) (i := i) (b := b) (by decide) (e - i).toNat (fun j p q => hl _ (by omega) (by omega))
  rw [← h (by omega)] at g
  have h8 : (32 : Int) ^ (e - i).toNat ≤ 32 ^ 8 := pow_mono (by decide) (by omega)
  have h7 : (32 : Int) ^ 8 = 1099511627776 := by decide
  rw [pk_s ⟨g.1, by omega⟩, show (e + 1 - i).toNat = (e - i).toNat + 1 by omega]
  show 32 * a + (b e - 96) = 32 * wf 32 b i (e - i).toNat + (b (i + ((e - i).toNat : Nat)) - 96)
  rw [← h (by omega), show i + (((e - i).toNat : Nat) : Int) = e by omega]
theorem df_w {b : Int → Int} {i e a : Int} (he : i ≤ e) (h : e - i ≤ 4 → a = df b i (e - i).toNat) (h9 : e + 1 - i ≤ 4) : a * 10 + b e - 48 = df b i (e + 1 - i).toNat := by
  rw [show (e + 1 - i).toNat = (e - i).toNat + 1 by omega]
  show a * 10 + b e - 48 = 10 * df b i (e - i).toNat + (b (i + ((e - i).toNat : Nat)) - 48)
  rw [← h (by omega), show i + (((e - i).toNat : Nat) : Int) = e by omega]
  omega
