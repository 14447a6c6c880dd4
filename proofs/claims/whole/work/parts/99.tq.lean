/-! equations taken in, one after another (class) -/
def kR (IK KR : Int → Int) (a j : Int) : Int := if IK a = 1 then KR (a * 81 + j) else 0
/-- what is kept: each in the row of its first unknown -/
def kOk (IK KR : Int → Int) (m : Int) : Prop := ∀ a, 0 ≤ a → a < m → IK a = 1 → KR (a * 81 + a) = 1 ∧ ∀ j, 0 ≤ j → j < a → KR (a * 81 + j) = 0
def tqI (p : Int) (IK KR e X : Int → Int) (m i : Int) : Prop := (∀ j, 0 ≤ j → j < i → mE p (X j) 0) ∧ ∃ f : Int → Int, ∀ j, 0 ≤ j → j < m → mE p (e j) (X j + sm (fun a => f a * kR IK KR a j) m.toNat)
theorem tq_0 (p : Int) (IK KR e : Int → Int) (m : Int) : tqI p IK KR e e m 0 :=
  ⟨fun j a b => by omega, fun _ => 0, fun j _ _ => by
    rw [sm_zero _ (fun a _ _ => Int.zero_mul _), Int.add_zero]; exact mE_rfl p _⟩
theorem tq_s {p i m c : Int} {IK KR e X Y : Int → Int} (hi : 0 ≤ i ∧ i < m) (hc : c = X i % p) (hk : c = 0 ∨ IK i = 1) (hO : kOk IK KR m) (h : tqI p IK KR e X m i)
    (hY : ∀ j, 0 ≤ j → j < m → mE p (Y j) (if j < i then X j else X j - c * KR (i * 81 + j))) : tqI p IK KR e Y m (i + 1) := by
  obtain ⟨h1, f, h2⟩ := h
  have hz : ∀ j, 0 ≤ j → j < m → mE p (Y j) (X j - c * kR IK KR i j) := fun j a b => by
    refine mE_trans (hY j a b) (mE_of ?_)
    by_cases g : j < i
    · rw [if_pos g]
      rcases hk with h3 | h3
      · rw [h3]; omega
      · unfold kR
        rw [if_pos h3, (hO i hi.1 hi.2 h3).2 j a g]; omega
    · rw [if_neg g]
      rcases hk with h3 | h3
      · rw [h3]; omega
      · unfold kR
        rw [if_pos h3]
  refine ⟨fun j a b => ?_, up f i (f i + c), fun j a b => ?_⟩
  · by_cases g : j < i
    · have h3 := hY j a (by omega)
      rw [if_pos g] at h3
      exact mE_trans h3 (h1 j a g)
    · have e1 : j = i := by omega
      rw [e1]
      refine mE_trans (hz i hi.1 hi.2) ?_
      have h4 : mE p (X i) c := by rw [hc]; exact mE_symm (mE_emod p _)
      rcases hk with h3 | h3
      · rw [h3] at h4 ⊢
        rw [Int.zero_mul, Int.sub_zero]; exact h4
      · unfold kR
        rw [if_pos h3, (hO i hi.1 hi.2 h3).1, Int.mul_one]
        exact mE_0.mpr h4
  · have e1 : (fun a => up f i (f i + c) a * kR IK KR a j) = up (fun a => f a * kR IK KR a j) i ((f i + c) * kR IK KR i j) := funext fun a => by
      by_cases g : a = i
      · rw [g, up_eq, up_eq]
      · rw [up_ne g, up_ne g]
    rw [e1, sm_upd (f := fun a => f a * kR IK KR a j) m.toNat hi.1 (by omega)]
    refine mE_trans (h2 j a b) ?_
    have h3 := mE_add (mE_symm (hz j a b)) (mE_rfl p (sm (fun a => f a * kR IK KR a j) m.toNat + c * kR IK KR i j))
    refine mE_trans (mE_of ?_) (mE_trans h3 (mE_of ?_))
    · omega
    · show _ = Y j + (sm (fun a => f a * kR IK KR a j) m.toNat - f i * kR IK KR i j + (f i + c) * kR IK KR i j)
      rw [Int.add_mul]; omega
/-- what an equation is when it is kept -/
theorem tq_k {p i m c s : Int} {IK KR e X G : Int → Int} (hi : 0 ≤ i ∧ i < m) (hc : c = X i % p) (hs : mE p (s * c) 1) (h : tqI p IK KR e X m i)
    (hG : ∀ j, 0 ≤ j → j < m → G j = if j < i then 0 else (X j * s) % p) : ∃ f : Int → Int, ∀ j, 0 ≤ j → j < m → mE p (e j) (c * G j + sm (fun a => f a * kR IK KR a j) m.toNat) := by
  obtain ⟨h1, f, h2⟩ := h
  refine ⟨f, fun j a b => mE_trans (h2 j a b) (mE_add ?_ (mE_rfl p _))⟩
  rw [hG j a b]
  by_cases g : j < i
  · rw [if_pos g, Int.mul_zero]; exact h1 j a g
  · rw [if_neg g]
    have h3 := mE_mul (mE_rfl p c) (mE_emod p (X j * s))
    refine mE_symm (mE_trans h3 ?_)
    have h4 := mE_mul (mE_rfl p (X j)) hs
    refine mE_trans (mE_of ?_) (mE_trans h4 (mE_of (Int.mul_one _)))
    rw [Int.mul_comm s c, ← Int.mul_assoc, ← Int.mul_assoc, Int.mul_comm c]
theorem tq_e {p i m : Int} {IK KR e X : Int → Int} (hi : m ≤ i) (h : tqI p IK KR e X m i) : ∃ f : Int → Int, ∀ j, 0 ≤ j → j < m → mE p (e j) (sm (fun a => f a * kR IK KR a j) m.toNat) := by
  obtain ⟨h1, f, h2⟩ := h
  refine ⟨f, fun j a b => mE_trans (h2 j a b) ?_⟩
  exact mE_trans (mE_add (h1 j a (by omega)) (mE_rfl p _)) (mE_of (by omega))
/-- what taking an equation e in does to what is kept -/
def tqR (p : Int) (IK KR e : Int → Int) (m R : Int) (IK' KR' : Int → Int) (R' : Int) : Prop :=
  (IK' = IK ∧ KR' = KR ∧ R' = R ∧ ∃ f : Int → Int, ∀ j, 0 ≤ j → j < m → mE p (e j) (sm (fun a => f a * kR IK KR a j) m.toNat)) ∨
  ∃ i c, (0 ≤ i ∧ i < m) ∧ (1 ≤ c ∧ c < p) ∧ IK i = 0 ∧ IK' = up IK i 1 ∧ R' = R + 1 ∧ (∀ x, (x < i * 81 ∨ i * 81 + m ≤ x) → KR' x = KR x) ∧ KR' (i * 81 + i) = 1 ∧ (∀ j, 0 ≤ j → j < i → KR' (i * 81 + j) = 0) ∧ (∀ j, 0 ≤ j → j < m → 0 ≤ KR' (i * 81 + j) ∧ KR' (i * 81 + j) < p) ∧ ∃ f : Int → Int, ∀ j, 0 ≤ j → j < m → mE p (e j) (c * KR' (i * 81 + j) + sm (fun a => f a * kR IK KR a j) m.toNat)
