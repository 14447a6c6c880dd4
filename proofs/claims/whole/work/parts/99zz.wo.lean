/-! all ways: the first letters together; how many there are in all -/
section WOC
variable {S n : Int} {H : (Int → Int) → Int}
theorem cnt_sum (hS : 0 < S) (hn : 0 ≤ n) (h1 : H (fun _ => 0) = 1) : cnt S n H n.toNat (fun _ => 0) = 1 + sm (fun f => Aq S n H f (fun _ => 0)) n.toNat := by
  have key : ∀ k : Nat, (k : Int) ≤ n → cq S n H (n - 1 - k) (fun _ => 0) = 1 + (sm (fun f => Aq S n H f (fun _ => 0)) n.toNat - sm (fun f => Aq S n H f (fun _ => 0)) (n - k).toNat) := by
    intro k
    induction k with
    | zero =>
      intro _
      show cnt S n H (n - 1 - (n - 1 - ((0 : Nat) : Int))).toNat (fun _ => 0) = _
      rw [show (n - 1 - (n - 1 - ((0 : Nat) : Int))).toNat = 0 by omega, show (n - ((0 : Nat) : Int)).toNat = n.toNat by omega, Int.sub_self]
      exact h1
    | succ k ih =>
      intro hk
      have := ih (by omega)
      rw [cq_0 hS (i := n - 1 - ((k + 1 : Nat) : Int)) (by omega) rfl, show n - 1 - ((k + 1 : Nat) : Int) + 1 = n - 1 - k by omega, this]
      have e : (n - (k : Int)).toNat = (n - 1 - k).toNat + 1 := by omega
      have e2 : sm (fun f => Aq S n H f (fun _ => 0)) (n - (k : Int)).toNat = sm (fun f => Aq S n H f (fun _ => 0)) (n - 1 - k).toNat + Aq S n H ((n - 1 - k).toNat : Int) (fun _ => 0) := by rw [e]; rfl
      rw [e2, show (((n - 1 - k).toNat : Nat) : Int) = n - 1 - k by omega, show (n - ((k + 1 : Nat) : Int)).toNat = (n - 1 - k).toNat by omega]
      omega
  have := key n.toNat (by omega)
  unfold cq at this
  rw [show (n - 1 - (n - 1 - ((n.toNat : Nat) : Int))).toNat = n.toNat by omega, show (n - ((n.toNat : Nat) : Int)).toNat = 0 by omega] at this
  rw [this]
  show 1 + (_ - 0) = _
  omega
theorem HW_z {s p n D : Int} {LN LR : Int → Int} {m : Int} (hn : 0 < n ∨ ∀ k, 0 ≤ k → k < m → LN k ≤ 0) : HWc s p n D LN m LR (fun _ => 0) = 1 := by
  refine alH_t ((alw_iff _).mpr (fun k a b c => ?_))
  rcases hn with h | h
  · exact q2z_iff.mpr (lvl_O h (by omega) (fun x _ _ => q2E_of (by rw [rh_0])))
  · have := h k a (by omega); omega
theorem pow_mono {p : Int} (hp : 1 ≤ p) {a b : Nat} (h : a ≤ b) : p ^ a ≤ p ^ b := by
  obtain ⟨c, rfl⟩ : ∃ c, b = a + c := ⟨b - a, by omega⟩
  rw [Int.pow_add]
  have h1 : 0 ≤ p ^ a := Int.pow_nonneg (by omega)
  have h2 : 1 ≤ p ^ c := Int.pow_pos (by omega)
  calc p ^ a = p ^ a * 1 := (Int.mul_one _).symm
    _ ≤ _ := Int.mul_le_mul_of_nonneg_left h2 h1
theorem pow_s {p k : Int} (h : 0 ≤ k) : p ^ (k + 1).toNat = p ^ k.toNat * p := by
  rw [show (k + 1).toNat = k.toNat + 1 by omega, Int.pow_succ]
/-- ways of squares of side a: rests to the power -/
def nsq (n a : Int) : Int := n * a * a
theorem sq_pow {a p n : Int} (ha : a = 1 ∨ a = 2) (hn : 0 ≤ n) : sqN a p ^ n.toNat = p ^ (nsq n a).toNat := by
  unfold nsq sqN
  rcases ha with rfl | rfl
  · rw [if_pos rfl, Int.mul_one, Int.mul_one]
  · rw [if_neg (by decide), show (n * 2 * 2).toNat = 4 * n.toNat by omega, Int.pow_mul]
    congr 1
    show p * p * p * p = p ^ 4
    rw [Int.pow_succ, Int.pow_succ, Int.pow_succ, Int.pow_succ, Int.pow_zero, Int.one_mul]
theorem p13_of {p : Int} (hp : sPr p) (h3 : 3 < p) (h : p * p * p * p ≤ 65536) : p13 p := by
  have h17 : p < 17 := by
    rcases Int.lt_or_le p 17 with g | g
    · exact g
    · have a1 : 17 * 17 ≤ p * p := Int.mul_le_mul g g (by decide) (by omega)
      have a2 : 17 * 17 * 17 ≤ p * p * p := Int.mul_le_mul a1 g (by decide) (Int.mul_nonneg (by omega) (by omega))
      have a3 : 17 * 17 * 17 * 17 ≤ p * p * p * p := Int.mul_le_mul a2 g (by decide) (Int.mul_nonneg (Int.mul_nonneg (by omega) (by omega)) (by omega))
      omega
  obtain ⟨-, -, hq⟩ := hp
  have c : p = 4 ∨ p = 5 ∨ p = 6 ∨ p = 7 ∨ p = 8 ∨ p = 9 ∨ p = 10 ∨ p = 11 ∨ p = 12 ∨ p = 13 ∨ p = 14 ∨ p = 15 ∨ p = 16 := by omega
  unfold p13
  rcases c with rfl | rfl | rfl | rfl | rfl | rfl | rfl | rfl | rfl | rfl | rfl | rfl | rfl
  · exact absurd rfl (hq 2 (by decide) (by decide))
  · omega
  · exact absurd rfl (hq 2 (by decide) (by decide))
  · omega
  · exact absurd rfl (hq 2 (by decide) (by decide))
  · exact absurd rfl (hq 3 (by decide) (by decide))
  · exact absurd rfl (hq 2 (by decide) (by decide))
  · omega
  · exact absurd rfl (hq 2 (by decide) (by decide))
  · omega
  · exact absurd rfl (hq 2 (by decide) (by decide))
  · exact absurd rfl (hq 3 (by decide) (by decide))
  · exact absurd rfl (hq 2 (by decide) (by decide))
/-- how many ways hold, both sides -/
noncomputable def wyF (a p n D : Int) (LN : Int → Int) (m : Int) (LR : Int → Int) (most : Int) : Int := if most < p ^ (nsq n a).toNat then -2 else cnt (sqN a p) n (HWc a p n D LN m LR) n.toNat (fun _ => 0)
/-- squares of a greater prime: one letter at most -/
theorem wy_one {p n D : Int} {LN LR : Int → Int} {m L most : Int} (hO : sOk n D p) (h3 : 3 < p) (hmo : most ≤ 65536) (hw : p ^ (nsq n 2).toNat ≤ most) (hm : 0 ≤ m) (hl : ∀ i, 0 ≤ i → i < m → 0 < LN i → LN i ≤ D ∧ 0 < n ∧ ∃ w, (0 ≤ w ∧ w < sW n D (LN i)) ∧ ¬ LR (i * 256 + w) % p = 0) (hL : lsI LN m L) :
    cnt (sqN 2 p) n (HWc 2 p n D LN m LR) n.toNat (fun _ => 0) = if L = -1 then p ^ (nsq n 2).toNat else if L = 1 then 1 else p * p := by
  have hp := hO.2.2.2
  have hn2 : n ≤ 1 := by
    rcases Int.lt_or_le n 2 with g | g
    · omega
    · have a1 : p ^ 8 ≤ p ^ (nsq n 2).toNat := pow_mono (by omega) (by unfold nsq; omega)
      have a2 : (4 : Int) ^ 8 ≤ p ^ 8 := by
        have : ∀ k : Nat, (4 : Int) ^ k ≤ p ^ k := by
          intro k
          induction k with
          | zero => rw [Int.pow_zero, Int.pow_zero]; exact Int.le_refl _
          | succ k ih =>
            rw [Int.pow_succ, Int.pow_succ]
            exact Int.mul_le_mul ih (by omega) (by decide) (Int.pow_nonneg (by omega))
        exact this 8
      have a4 : ¬ p = 4 := fun e => by
        have := hp.2.2 2 (by decide) (by omega)
        rw [e] at this; exact this rfl
      have a5 : (5 : Int) ^ 8 ≤ p ^ 8 := by
        have : ∀ k : Nat, (5 : Int) ^ k ≤ p ^ k := by
          intro k
          induction k with
          | zero => rw [Int.pow_zero, Int.pow_zero]; exact Int.le_refl _
          | succ k ih =>
            rw [Int.pow_succ, Int.pow_succ]
            exact Int.mul_le_mul ih (by omega) (by decide) (Int.pow_nonneg (by omega))
        exact this 8
      have : (5 : Int) ^ 8 = 390625 := by decide
      omega
  have c : n = 0 ∨ n = 1 := by have := hO.1.1; omega
  rcases c with rfl | rfl
  · have hno : ∀ k, 0 ≤ k → k < m → LN k ≤ 0 := fun k a b => by
      rcases Int.lt_or_le 0 (LN k) with g | g
      · have := (hl k a b g).2.1; omega
      · exact g
    have e : L = -1 := by
      rcases hL with ⟨l1, -⟩ | ⟨l1, ⟨k, l2, l3⟩, -⟩
      · exact l1
      · have := hno k l2.1 l2.2; omega
    rw [if_pos e, show (nsq 0 2).toNat = 0 by decide, Int.pow_zero]
    exact HW_z (.inr hno)
  · have e4 : p ^ (nsq 1 2).toNat = p * p * p * p := by
      rw [show (nsq 1 2).toNat = 4 by decide, Int.pow_succ, Int.pow_succ, Int.pow_succ, Int.pow_succ, Int.pow_zero, Int.one_mul]
    rw [e4] at hw ⊢
    refine one_cnt hp (p13_of hp h3 (by omega)) hm hO.2.1 (fun i a b d => ?_) hL
    obtain ⟨h1, -, w, h4, h5⟩ := hl i a b d
    rw [sW_in (by omega) h1, Int.one_pow] at h4
    rw [show w = 0 by omega] at h5
    exact ⟨h1, h5⟩
end WOC
