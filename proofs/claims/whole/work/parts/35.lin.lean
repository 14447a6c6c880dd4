/-! SUMS AND SPACES of rows, by a prime -/
def sm (f : Int → Int) : Nat → Int
  | 0 => 0
  | k + 1 => sm f k + f k
theorem sm_s (f : Int → Int) {k : Int} (h : 0 ≤ k) : sm f (k + 1).toNat = sm f k.toNat + f k := by
  rw [show (k + 1).toNat = k.toNat + 1 by omega]
  show sm f k.toNat + f ((k.toNat : Nat) : Int) = _
  rw [show ((k.toNat : Nat) : Int) = k by omega]
theorem sm_ext {f g : Int → Int} : ∀ m : Nat, (∀ j : Int, 0 ≤ j → j < m → f j = g j) → sm f m = sm g m
  | 0, _ => rfl
  | m + 1, h => by
    show sm f m + f m = sm g m + g m
    rw [sm_ext m (fun j h0 h1 => h j h0 (by omega)), h m (by omega) (by omega)]
theorem sm_add (f g : Int → Int) : ∀ m : Nat, sm (fun j => f j + g j) m = sm f m + sm g m
  | 0 => rfl
  | m + 1 => by
    show sm (fun j => f j + g j) m + (f m + g m) = sm f m + f m + (sm g m + g m)
    rw [sm_add f g m]; omega
theorem sm_mul (c : Int) (f : Int → Int) : ∀ m : Nat, sm (fun j => c * f j) m = c * sm f m
  | 0 => (Int.mul_zero c).symm
  | m + 1 => by
    show sm (fun j => c * f j) m + c * f m = c * (sm f m + f m)
    rw [sm_mul c f m, Int.mul_add]
theorem sm_zero {f : Int → Int} : ∀ m : Nat, (∀ j : Int, 0 ≤ j → j < m → f j = 0) → sm f m = 0
  | 0, _ => rfl
  | m + 1, h => by
    show sm f m + f m = 0
    rw [sm_zero m (fun j h0 h1 => h j h0 (by omega)), h m (by omega) (by omega)]; rfl
theorem sm_one {f : Int → Int} {k : Int} : ∀ m : Nat, 0 ≤ k → k < m → (∀ j : Int, 0 ≤ j → j < m → ¬ j = k → f j = 0) → sm f m = f k
  | 0, h0, h1, _ => by omega
  | m + 1, h0, h1, h => by
    show sm f m + f m = f k
    by_cases e : k = m
    · rw [sm_zero m (fun j g0 g1 => h j g0 (by omega) (by omega)), e, Int.zero_add]
    · rw [sm_one m h0 (by omega) (fun j g0 g1 g2 => h j g0 (by omega) g2), h m (by omega) (by omega) (by omega), Int.add_zero]
theorem sm_cat (f : Int → Int) (a : Nat) : ∀ b : Nat, sm f (a + b) = sm f a + sm (fun t => f (a + t)) b
  | 0 => (Int.add_zero _).symm
  | b + 1 => by
    show sm f (a + b) + f ((a + b : Nat) : Int) = sm f a + (sm (fun t => f (a + t)) b + f (a + b))
    rw [sm_cat f a b, show ((a + b : Nat) : Int) = (a : Int) + b by omega]; omega
theorem sm_b {f : Int → Int} {B : Int} : ∀ m : Nat, (∀ j : Int, 0 ≤ j → j < m → 0 ≤ f j ∧ f j ≤ B) → 0 ≤ sm f m ∧ sm f m ≤ m * B
  | 0, _ => ⟨Int.le_refl 0, by show (0 : Int) ≤ ((0 : Nat) : Int) * B; omega⟩
  | m + 1, h => by
    have h1 := sm_b (f := f) (B := B) m (fun j h0 h1 => h j h0 (by omega))
    have h2 := h m (by omega) (by omega)
    show 0 ≤ sm f m + f m ∧ sm f m + f m ≤ ((m + 1 : Nat) : Int) * B
    rw [show ((m + 1 : Nat) : Int) * B = (m : Int) * B + B by rw [Int.natCast_add, Int.add_mul]; simp]
    omega
theorem sm_swap (f : Int → Int → Int) (a : Nat) : ∀ b : Nat, sm (fun i => sm (fun j => f i j) a) b = sm (fun j => sm (fun i => f i j) b) a
  | 0 => (sm_zero a (fun j _ _ => rfl)).symm
  | b + 1 => by
    show sm (fun i => sm (fun j => f i j) a) b + sm (fun j => f b j) a = _
    rw [sm_swap f a b, ← sm_add]
    exact sm_ext a (fun j _ _ => rfl)
abbrev mE (p a b : Int) : Prop := p ∣ a - b
theorem mE_rfl (p a : Int) : mE p a a := ⟨0, by omega⟩
theorem mE_of {p a b : Int} (h : a = b) : mE p a b := h ▸ mE_rfl p a
theorem mE_symm {p a b : Int} (h : mE p a b) : mE p b a := by
  obtain ⟨k, h⟩ := h
  exact ⟨-k, by rw [Int.mul_neg, ← h]; omega⟩
theorem mE_trans {p a b c : Int} (h : mE p a b) (g : mE p b c) : mE p a c := by
  have := Int.dvd_add h g
  rwa [show a - b + (b - c) = a - c by omega] at this
theorem mE_add {p a b c d : Int} (h : mE p a b) (g : mE p c d) : mE p (a + c) (b + d) := by
  have := Int.dvd_add h g
  rwa [show a - b + (c - d) = a + c - (b + d) by omega] at this
theorem mE_mul {p a b c d : Int} (h : mE p a b) (g : mE p c d) : mE p (a * c) (b * d) := by
  obtain ⟨k, h⟩ := h
  obtain ⟨l, g⟩ := g
  refine ⟨k * c + b * l, ?_⟩
  have e1 : a = b + p * k := by omega
  have e2 : c = d + p * l := by omega
  subst e1; subst e2
  grind
theorem mE_neg {p a b : Int} (h : mE p a b) : mE p (-a) (-b) := by
  have := mE_symm h
  show p ∣ -a - -b
  rwa [show -a - -b = b - a by omega]
theorem mE_sub {p a b c d : Int} (h : mE p a b) (g : mE p c d) : mE p (a - c) (b - d) := by
  have := mE_add h (mE_neg g)
  rwa [← Int.sub_eq_add_neg, ← Int.sub_eq_add_neg] at this
theorem mE_emod (p a : Int) : mE p (a % p) a := by
  have h := Int.emod_add_mul_ediv a p
  exact ⟨-(a / p), by rw [Int.mul_neg]; omega⟩
theorem mE_0 {p a : Int} : mE p a 0 ↔ p ∣ a := by
  show p ∣ a - 0 ↔ p ∣ a
  rw [show a - 0 = a by omega]
theorem mE_z {p a : Int} : mE p a 0 ↔ a % p = 0 := by rw [mE_0]; exact ⟨Int.emod_eq_zero_of_dvd, Int.dvd_of_emod_eq_zero⟩
theorem mE_iff {p a b : Int} : mE p a b ↔ (a - b) % p = 0 := ⟨Int.emod_eq_zero_of_dvd, Int.dvd_of_emod_eq_zero⟩
theorem mE_eq {p a b : Int} (ha : 0 ≤ a ∧ a < p) (hb : 0 ≤ b ∧ b < p) (h : mE p a b) : a = b := by
  have h1 := Int.emod_emod_of_dvd a (Int.dvd_refl p)
  have h2 : a % p = b % p := Int.emod_eq_emod_iff_emod_sub_eq_zero.mpr (mE_iff.mp h)
  rw [Int.emod_eq_of_lt ha.1 ha.2, Int.emod_eq_of_lt hb.1 hb.2] at h2
  exact h2
theorem mE_mod {p a b : Int} (h : mE p a b) : a % p = b % p := Int.emod_eq_emod_iff_emod_sub_eq_zero.mpr (mE_iff.mp h)
theorem mE_ofmod {p a b : Int} (h : a % p = b % p) : mE p a b := mE_iff.mpr (Int.emod_eq_emod_iff_emod_sub_eq_zero.mp h)
theorem mE_sm {p : Int} {f g : Int → Int} : ∀ m : Nat, (∀ j : Int, 0 ≤ j → j < m → mE p (f j) (g j)) → mE p (sm f m) (sm g m)
  | 0, _ => mE_rfl p 0
  | m + 1, h => mE_add (mE_sm m (fun j h0 h1 => h j h0 (by omega))) (h m (by omega) (by omega))
/-- a prime divides no product of what it does not divide -/
theorem pr_mul {p a b : Int} (hp : sPr p) (h : p ∣ a * b) (ha : ¬ p ∣ a) : p ∣ b := by
  have h1 := sR_lt (z := a) hp
  have h2 : ¬ a % p = 0 := fun e => ha (Int.dvd_of_emod_eq_zero e)
  obtain ⟨i, h3, h4, h5⟩ := pr_inv hp (v := a % p) (by omega) h1.2
  have h6 : mE p (i * (a % p)) 1 := mE_ofmod (by rw [h5]; exact (Int.emod_eq_of_lt (by decide) (by have := hp.1; omega)).symm)
  have h7 : mE p (i * (a % p) * b) (1 * b) := mE_mul h6 (mE_rfl p b)
  have h8 : mE p (i * (a % p) * b) (i * a * b) := mE_mul (mE_mul (mE_rfl p i) (mE_emod p a)) (mE_rfl p b)
  have h9 : mE p (i * a * b) 0 := mE_0.mpr (by rw [Int.mul_assoc]; exact Int.dvd_mul_of_dvd_right h)
  have := mE_trans (mE_symm h7) (mE_trans h8 h9)
  rw [Int.one_mul] at this
  exact mE_0.mp this
theorem pr_iv {p a : Int} (hp : sPr p) (ha : ¬ p ∣ a) : ∃ i : Int, mE p (i * a) 1 := by
  have h1 := sR_lt (z := a) hp
  have h2 : ¬ a % p = 0 := fun e => ha (Int.dvd_of_emod_eq_zero e)
  obtain ⟨i, h3, h4, h5⟩ := pr_inv hp (v := a % p) (by omega) h1.2
  have h6 : mE p (i * (a % p)) 1 := mE_ofmod (by rw [h5]; exact (Int.emod_eq_of_lt (by decide) (by have := hp.1; omega)).symm)
  exact ⟨i, mE_trans (mE_mul (mE_rfl p i) (mE_symm (mE_emod p a))) h6⟩
/-- spaces -/
theorem vS_ext {p W : Int} {V : (Int → Int) → Prop} (h : vSub p W V) {a b : Int → Int} (ha : V a) (hab : ∀ j, 0 ≤ j → j < W → mE p (a j) (b j)) : V b := h.2.2 a b (fun j h0 h1 => mE_iff.mp (hab j h0 h1)) ha
theorem vS_add {p W : Int} {V : (Int → Int) → Prop} (h : vSub p W V) {a b : Int → Int} (ha : V a) (hb : V b) (c : Int) : V (fun j => a j + c * b j) := h.2.1 a b c ha hb
theorem vS_sm {p W : Int} {V : (Int → Int) → Prop} (h : vSub p W V) (c : Int → Int) (f : Int → Int → Int) : ∀ m : Nat, (∀ i : Int, 0 ≤ i → i < m → ¬ p ∣ c i → V (f i)) → V (fun j => sm (fun i => c i * f i j) m)
  | 0, _ => vS_ext h h.1 (fun j _ _ => mE_rfl p 0)
  | m + 1, hf => by
    have h1 := vS_sm h c f m (fun i h0 h1 => hf i h0 (by omega))
    by_cases hc : p ∣ c m
    · refine vS_ext h h1 (fun j _ _ => ?_)
      show mE p (sm (fun i => c i * f i j) m) (sm (fun i => c i * f i j) m + c m * f m j)
      have h2 : mE p (c m * f m j) 0 := mE_0.mpr (Int.dvd_mul_of_dvd_left hc)
      have h3 := mE_add (mE_rfl p (sm (fun i => c i * f i j) m)) (mE_symm h2)
      rwa [Int.add_zero] at h3
    · exact vS_ext h (vS_add h h1 (hf m (by omega) (by omega) hc) (c m)) (fun j _ _ => mE_rfl p _)
def hasTop (p W : Int) (V : (Int → Int) → Prop) (k : Int) : Prop := ∃ v, V v ∧ ¬ p ∣ v k ∧ ∀ j, k < j → j < W → p ∣ v j
def isNF (p W : Int) (V : (Int → Int) → Prop) (v X : Int → Int) : Prop := V (fun j => v j - X j) ∧ (∀ j, 0 ≤ j → j < W → 0 ≤ X j ∧ X j < p) ∧ ∀ k, 0 ≤ k → k < W → hasTop p W V k → X k = 0
/-- a greatest place that is not nought -/
theorem top_ex (p : Int) (v : Int → Int) : ∀ m : Nat, (∀ j : Int, 0 ≤ j → j < m → p ∣ v j) ∨ ∃ k : Int, 0 ≤ k ∧ k < m ∧ ¬ p ∣ v k ∧ ∀ j : Int, k < j → j < m → p ∣ v j
  | 0 => .inl (fun j h0 h1 => by omega)
  | m + 1 => by
    by_cases h : p ∣ v m
    · rcases top_ex p v m with h1 | ⟨k, h1, h2, h3, h4⟩
      · refine .inl (fun j h2 h3 => ?_)
        by_cases e : j = m
        · rw [e]; exact h
        · exact h1 j h2 (by omega)
      · refine .inr ⟨k, h1, by omega, h3, fun j h5 h6 => ?_⟩
        by_cases e : j = m
        · rw [e]; exact h
        · exact h4 j h5 (by omega)
    · exact .inr ⟨m, by omega, by omega, h, fun j h5 h6 => by omega⟩
theorem nf_uniq {p W : Int} {V : (Int → Int) → Prop} (hV : vSub p W V) (hW : 0 ≤ W) {v u X Y : Int → Int} (huv : V (fun j => v j - u j)) (h1 : isNF p W V v X) (h2 : isNF p W V u Y) : ∀ j, 0 ≤ j → j < W → X j = Y j := by
  have hd : V (fun j => X j - Y j) := by
    have g1 := vS_add hV huv h1.1 (-1)
    have g2 := vS_add hV g1 h2.1 1
    refine vS_ext hV g2 (fun j _ _ => mE_of ?_)
    show v j - u j + -1 * (v j - X j) + 1 * (u j - Y j) = X j - Y j
    omega
  rcases top_ex p (fun j => X j - Y j) W.toNat with h3 | ⟨k, h3, h4, h5, h6⟩
  · intro j g0 g1
    exact mE_eq (h1.2.1 j g0 g1) (h2.2.1 j g0 g1) (h3 j g0 (by omega))
  · exfalso
    have ht : hasTop p W V k := ⟨_, hd, h5, fun j g0 g1 => h6 j g0 (by omega)⟩
    have e1 := h1.2.2 k h3 (by omega) ht
    have e2 := h2.2.2 k h3 (by omega) ht
    apply h5
    show p ∣ X k - Y k
    rw [e1, e2]
    exact ⟨0, by omega⟩
/-- V and a row more -/
def vAdd (V : (Int → Int) → Prop) (r : Int → Int) : (Int → Int) → Prop := fun v => ∃ c : Int, V (fun j => v j - c * r j)
theorem vAdd_sub {p W : Int} {V : (Int → Int) → Prop} (h : vSub p W V) (r : Int → Int) : vSub p W (vAdd V r) := by
  refine ⟨⟨0, vS_ext h h.1 (fun j _ _ => mE_of (by show (0 : Int) = 0 - 0 * r j; omega))⟩, fun a b c ⟨s, ha⟩ ⟨t, hb⟩ => ⟨s + c * t, ?_⟩, fun a b hab ⟨s, ha⟩ => ⟨s, vS_ext h ha (fun j h0 h1 => mE_sub (mE_iff.mpr (hab j h0 h1)) (mE_rfl p _))⟩⟩
  refine vS_ext h (vS_add h ha hb c) (fun j _ _ => mE_of ?_)
  show a j - s * r j + c * (b j - t * r j) = a j + c * b j - (s + c * t) * r j
  grind
theorem vAdd_old {p W : Int} {V : (Int → Int) → Prop} (h : vSub p W V) {r v : Int → Int} (hv : V v) : vAdd V r v := ⟨0, vS_ext h hv (fun j _ _ => mE_of (by omega))⟩
theorem vAdd_new {p W : Int} {V : (Int → Int) → Prop} (h : vSub p W V) (r : Int → Int) : vAdd V r r := ⟨1, vS_ext h h.1 (fun j _ _ => mE_of (by omega))⟩
theorem vAdd_le {p W : Int} {U V : (Int → Int) → Prop} (h : vSub p W U) {r : Int → Int} (hVU : ∀ v, V v → U v) (hr : U r) {v : Int → Int} (hv : vAdd V r v) : U v := by
  obtain ⟨c, hc⟩ := hv
  exact vS_ext h (vS_add h (hVU _ hc) hr c) (fun j _ _ => mE_of (by omega))
