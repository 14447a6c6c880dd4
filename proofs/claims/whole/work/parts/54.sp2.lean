/-! what is asked of the leading words (L: 1 where a word leads): the base, the i-th word of a kind -/
abbrev isB (L : Int → Int) (n D d w : Int) : Prop := 1 ≤ d ∧ ¬ L (sS n D d + w) = 0 ∧ L (sS n D (d - 1) + w % sW n D (d - 1)) = 0 ∧ L (sS n D (d - 1) + w / n) = 0
def cB (L : Int → Int) (n D d : Int) : Int := sm (fun w => bI (isB L n D d w)) (sW n D d).toNat
def nth (f : Int → Int) (i : Int) : Nat → Int
  | 0 => -1
  | k + 1 => if nth f i k = -1 ∧ f k = 1 ∧ sm f k = i then k else nth f i k
theorem nth_s (f : Int → Int) (i : Int) {k : Int} (h : 0 ≤ k) : nth f i (k + 1).toNat = if nth f i k.toNat = -1 ∧ f k = 1 ∧ sm f k.toNat = i then k else nth f i k.toNat := by
  rw [show (k + 1).toNat = k.toNat + 1 by omega]
  show (if nth f i k.toNat = -1 ∧ f ((k.toNat : Nat) : Int) = 1 ∧ sm f k.toNat = i then ((k.toNat : Nat) : Int) else nth f i k.toNat) = _
  rw [show ((k.toNat : Nat) : Int) = k by omega]
theorem nth_keep (f : Int → Int) (i : Int) {a : Int} (h0 : 0 ≤ a) (h : ¬ nth f i a.toNat = -1) : ∀ t : Nat, nth f i (a + t).toNat = nth f i a.toNat
  | 0 => by rw [show a + ((0 : Nat) : Int) = a by omega]
  | t + 1 => by
    have ih := nth_keep f i h0 h t
    rw [show a + ((t + 1 : Nat) : Int) = (a + t) + 1 by omega, nth_s f i (by omega), ih, if_neg (fun q => h q.1)]
theorem nth_hit {f : Int → Int} {i a b : Int} (h0 : 0 ≤ a) (hb : a < b) (h1 : nth f i a.toNat = -1) (h2 : f a = 1) (h3 : sm f a.toNat = i) : nth f i b.toNat = a := by
  have e : nth f i (a + 1).toNat = a := by rw [nth_s f i h0, if_pos ⟨h1, h2, h3⟩]
  have := nth_keep f i (a := a + 1) (by omega) (by rw [e]; omega) (b - (a + 1)).toNat
  rw [show a + 1 + (((b - (a + 1)).toNat : Nat) : Int) = b by omega] at this
  rw [this, e]
theorem nth_miss {f : Int → Int} {i k : Int} (h0 : 0 ≤ k) (h1 : nth f i k.toNat = -1) (h2 : ¬ f k = 1 ∨ ¬ sm f k.toNat = i) : nth f i (k + 1).toNat = -1 := by
  rw [nth_s f i h0, if_neg (fun q => by rcases h2 with h | h; exact h q.2.1; exact h q.2.2)]
  exact h1
theorem nth_neg {f : Int → Int} {i : Int} (hf : ∀ x, 0 ≤ f x) (hi : i < 0) : ∀ m : Nat, nth f i m = -1
  | 0 => rfl
  | m + 1 => by
    have h1 : 0 ≤ sm f m := by
      clear hi i
      induction m with
      | zero => exact Int.le_refl 0
      | succ m ih =>
        have := hf m
        show 0 ≤ sm f m + f m
        omega
    show (if nth f i m = -1 ∧ f m = 1 ∧ sm f m = i then (m : Int) else nth f i m) = -1
    rw [if_neg (fun q => by omega)]
    exact nth_neg hf hi m
theorem bI_nn (P : Prop) [Decidable P] : 0 ≤ bI P := by
  rcases bI_01 P with h | h <;> omega
theorem bI_iff {P Q : Prop} [Decidable P] [Decidable Q] (h : P ↔ Q) : bI P = bI Q := by
  unfold bI
  by_cases c : P
  · rw [if_pos c, if_pos (h.mp c)]
  · rw [if_neg c, if_neg (fun q => c (h.mpr q))]
theorem sm_01 {f : Int → Int} (hf : ∀ x, 0 ≤ f x ∧ f x ≤ 1) (m : Nat) : 0 ≤ sm f m ∧ sm f m ≤ m := by
  have := sm_b (f := f) (B := 1) m (fun j _ _ => hf j)
  omega
theorem cB_b (L : Int → Int) {n D p d : Int} (hO : sOk n D p) : 0 ≤ cB L n D d ∧ cB L n D d ≤ 256 := by
  have h1 := sm_01 (f := fun w => bI (isB L n D d w)) (fun x => by rcases bI_01 (isB L n D d x) with h | h <;> omega) (sW n D d).toNat
  have h2 := sW_b (k := d) hO
  unfold cB
  omega
/-- the model's state of what is nought -/
def mNall (rs rw_ ld sz : Int → Int) (n D p : Int) (LW : Int → (Int → Int) → Prop) : Prop := (∀ d, 0 ≤ d → d ≤ D → mNd rs rw_ ld sz 0 n D p LW d) ∧ R97 rw_ ∧ R01 ld
theorem wd_lt {n D p d w : Int} (hO : sOk n D p) (hd : 1 ≤ d) (hw : 0 ≤ w ∧ w < sW n D d) : 0 < n ∧ 0 < sW n D (d - 1) ∧ (0 ≤ w / n ∧ w / n < sW n D (d - 1)) ∧ (0 ≤ w % sW n D (d - 1) ∧ w % sW n D (d - 1) < sW n D (d - 1)) ∧ d ≤ D := by
  have hdD : d ≤ D := by
    rcases Int.lt_or_le D d with h | h
    · rw [sW_big h] at hw; omega
    · exact h
  have h1 := sW_p hO (show 0 ≤ d - 1 by omega) (show d - 1 ≤ d by omega) hw
  have hs := sW_succ (n := n) (D := D) (k := d - 1) (by omega) (by omega)
  rw [show d - 1 + 1 = d by omega] at hs
  have hn : 0 < n := by
    rcases Int.lt_or_le 0 n with h | h
    · exact h
    · have h0 : n = 0 := by have := hO.1.1; omega
      have h2 : sW n D (d - 1) * n = 0 := by rw [h0, Int.mul_zero]
      omega
  refine ⟨hn, h1, ⟨Int.ediv_nonneg hw.1 (by omega), Int.ediv_lt_of_lt_mul hn (by rw [← hs]; exact hw.2)⟩, ⟨Int.emod_nonneg _ (by omega), Int.emod_lt_of_pos _ h1⟩, hdD⟩
theorem sS_in {n D p d w : Int} (hO : sOk n D p) (h0 : 0 ≤ d) (hw : 0 ≤ w ∧ w < sW n D d) : 0 ≤ sS n D d + w ∧ sS n D d + w < 364 := by
  have := sS_word hO h0 hw
  omega
theorem sAt_p {n D w : Int} (h : 0 ≤ sAt n D w) : 0 ≤ w ∧ 0 ≤ w / 1000 ∧ w / 1000 ≤ D ∧ 0 ≤ w % 1000 ∧ w % 1000 < sW n D (w / 1000) ∧ sAt n D w = sS n D (w / 1000) + w % 1000 := by
  unfold sAt at h ⊢
  by_cases c : 0 ≤ w ∧ w / 1000 ≤ D ∧ w % 1000 < sW n D (w / 1000)
  · rw [if_pos c]
    exact ⟨c.1, Int.ediv_nonneg c.1 (by decide), c.2.1, Int.emod_nonneg _ (by decide), c.2.2, rfl⟩
  · rw [if_neg c] at h
    omega
/-- forms of a row of words, length by length -/
def nfR (n D p : Int) (LW : Int → (Int → Int) → Prop) (f g : Int → Int) : Prop := ∀ d, 0 ≤ d → d ≤ D → isNF p (sW n D d) (nV n D p LW d.toNat) (fun j => f (sS n D d + j)) (fun j => g (sS n D d + j))
theorem nf_zero {n D p : Int} {LW : Int → (Int → Int) → Prop} (hp : 2 ≤ p) (hD : 0 ≤ D) {f : Int → Int} (hf : 0 ≤ f 0 ∧ f 0 < p) : isNF p (sW n D 0) (nV n D p LW (0 : Int).toNat) f f := by
  rw [sW_0 hD]
  refine ⟨?_, fun j h0 h1 => by rw [show j = 0 by omega]; exact hf, fun k h0 h1 ⟨v, hv, hk, _⟩ => ?_⟩
  · show p ∣ f 0 - f 0
    exact ⟨0, by omega⟩
  · exfalso
    apply hk
    rw [show k = 0 by omega]
    exact hv
theorem nfR_uniq {n D p q : Int} {LW : Int → (Int → Int) → Prop} (hO : sOk n D q) (hp : 0 < p) {f f' g g' : Int → Int} (hff : ∀ x, 0 ≤ x → x < sS n D (D + 1) → mE p (f x) (f' x)) (h1 : nfR n D p LW f g) (h2 : nfR n D p LW f' g') : ∀ x, 0 ≤ x → x < sS n D (D + 1) → g x = g' x := by
  intro x h0 hx
  obtain ⟨d, w, a1, a2, a3, a4, a5⟩ := sL_ex hO h0 hx
  have hs := nV_subI (n := n) (LW := LW) hp (show 0 ≤ D by omega) a1
  have hw := sW_b (k := d) hO
  have := nf_uniq hs hw.1 (vS_ext hs hs.1 (fun j b0 b1 => ?_)) (h1 d a1 a2) (h2 d a1 a2) w a3 a4
  · rw [a5]; exact this
  · have hin := sS_word hO a1 ⟨b0, b1⟩
    have := hff (sS n D d + j) (by omega) (by omega)
    have h9 := mE_sub this (mE_rfl p (f' (sS n D d + j)))
    refine mE_symm (mE_trans h9 (mE_of (by omega)))
theorem sG_nn {f : Int → Int} : ∀ m : Nat, sG f m < 0 → ∀ x : Int, 0 ≤ x → x < m → f x = 0
  | 0, _, x, h0, h1 => by omega
  | m + 1, h, x, h0, h1 => by
    have h : (if f m = 0 then sG f m else (m : Int)) < 0 := h
    by_cases c : f m = 0
    · rw [if_pos c] at h
      by_cases e : x = m
      · rw [e]; exact c
      · exact sG_nn m h x h0 (by omega)
    · rw [if_neg c] at h; omega
theorem sG_pp {f : Int → Int} : ∀ m : Nat, 0 ≤ sG f m → ∃ x : Int, 0 ≤ x ∧ x < m ∧ ¬ f x = 0
  | 0, h => by have : (-1 : Int) ≥ 0 := h; omega
  | m + 1, h => by
    have h : 0 ≤ (if f m = 0 then sG f m else (m : Int)) := h
    by_cases c : f m = 0
    · rw [if_pos c] at h
      obtain ⟨x, a, b, e⟩ := sG_pp m h
      exact ⟨x, a, by omega, e⟩
    · exact ⟨m, by omega, by omega, c⟩
/-- sums over the lengths -/
def bT (f g : Int → Int) (d : Int) : Int := sm (fun j => if j % 2 = 0 then f (d - j) * g j else -(f (d - j) * g j)) (d + 1).toNat
def sers (f s : Int → Int) (d : Int) : Prop := s 0 = 1 ∧ ∀ k, 1 ≤ k → k ≤ d → s k = -(sm (fun i => f (i + 1) * s (k - (i + 1))) k.toNat)
theorem sers_uniq {f g s t : Int → Int} {d : Int} (hf : ∀ k, 0 ≤ k → k ≤ d → f k = g k) (h1 : sers f s d) (h2 : sers g t d) : ∀ m : Nat, ∀ k : Int, 0 ≤ k → k ≤ d → k ≤ m → s k = t k
  | 0, k, h0, _, hm => by rw [show k = 0 by omega, h1.1, h2.1]
  | m + 1, k, h0, hd, hm => by
    by_cases e : k = 0
    · rw [e, h1.1, h2.1]
    · rw [h1.2 k (by omega) hd, h2.2 k (by omega) hd]
      congr 1
      exact sm_ext _ (fun i i0 i1 => by
        show f (i + 1) * s (k - (i + 1)) = g (i + 1) * t (k - (i + 1))
        rw [hf (i + 1) (by omega) (by omega), sers_uniq hf h1 h2 m (k - (i + 1)) (by omega) (by omega) (by omega)])
theorem nf_dst {p W : Int} {V : (Int → Int) → Prop} {a X Y : Int → Int} (h : isNF p W V a X) (e : ∀ j, 0 ≤ j → j < W → Y j = X j) (hV : vSub p W V) : isNF p W V a Y :=
  ⟨vS_ext hV h.1 (fun j h0 h1 => mE_of (by show a j - X j = a j - Y j; rw [e j h0 h1])), fun j h0 h1 => by rw [e j h0 h1]; exact h.2.1 j h0 h1, fun k h0 h1 ht => by rw [e k h0 h1]; exact h.2.2 k h0 h1 ht⟩
theorem nfR_fin {n D p d f : Int} {LW : Int → (Int → Int) → Prop} {old X A : Int → Int} (hO : sOk n D p) (hN : ∀ e, 0 ≤ e → e < d → isNF p (sW n D e) (nV n D p LW e.toNat) (fun j => old (f + (sS n D e + j))) (fun j => X (f + (sS n D e + j)))) (hd : D < d ∧ d ≤ D + 1) (hX : ∀ x, (x < f ∨ f + sS n D d ≤ x) → X x = old x) (hA : R97 A) (hX3 : R97 X) : nfR n D p LW (fun x => old (f + x)) (fun x => X (f + x)) ∧ (∀ x, (x < f ∨ f + sS n D (D + 1) ≤ x) → X x = old x) ∧ R97 A ∧ R97 X ∧ ∀ x, 0 ≤ x → x < sS n D (D + 1) → X (f + x) < p := by
  have e : d = D + 1 := by omega
  subst e
  refine ⟨fun e h0 h1 => hN e h0 (by omega), hX, hA, hX3, fun x h0 h1 => ?_⟩
  obtain ⟨d, w, a1, a2, a3, a4, a5⟩ := sL_ex hO h0 h1
  rw [a5]
  exact ((hN d a1 (by omega)).2.1 w a3 a4).2
theorem mN_sz {rs rw_ ld sz : Int → Int} {n D p d : Int} {LW : Int → (Int → Int) → Prop} (h : mNd rs rw_ ld sz 0 n D p LW d) : sz d = sm (fun w => if ld (sS n D d + w) = 0 then 1 else 0) (sW n D d).toNat := by
  have := h.2.2
  rw [show 9 * 0 + d = d by omega] at this
  rw [this]
  exact sm_ext _ (fun w _ _ => by show (if ld (400 * 0 + sS n D d + w) = 0 then 1 else 0) = _; rw [show 400 * 0 + sS n D d + w = sS n D d + w by omega])
theorem ml_e {a x p : Int} : ((a * x) % p + x) % p = ((a + 1) * x) % p := by
  rw [Int.add_mul, Int.one_mul, Int.emod_add_emod]
theorem m256 {a b : Int} (ha : 0 ≤ a ∧ a ≤ 256) (hb : 0 ≤ b ∧ b ≤ 256) : 0 ≤ a * b ∧ a * b ≤ 65536 := by
  refine ⟨Int.mul_nonneg ha.1 hb.1, ?_⟩
  calc a * b ≤ 256 * b := Int.mul_le_mul_of_nonneg_right ha.2 hb.1
    _ ≤ 256 * 256 := Int.mul_le_mul_of_nonneg_left hb.2 (by decide)
theorem al_nf {n D p : Int} {LW : Int → (Int → Int) → Prop} {X Y g f : Int → Int} (hO : sOk n D p) (h : nfR n D p LW (fun x => X (0 + x)) (fun x => Y (0 + x))) (hX : X = seg f 0 (sS n D (D + 1)) g) : nfR n D p LW g (fun k => Y k) := by
  intro d h0 h1
  have h2 := h d h0 h1
  have hs := nV_subI (n := n) (LW := LW) (show 0 < p by have := hO.2.2.2.1; omega) (show 0 ≤ D by omega) h0
  refine nf_dst (nf_src hs h2 (fun j a b => ?_)) (fun j a b => ?_) hs
  · have := sS_word hO h0 ⟨a, b⟩
    show X (0 + (sS n D d + j)) = g (sS n D d + j)
    rw [Int.zero_add, hX, seg_in0 (by omega)]
  · show Y (sS n D d + j) = Y (0 + (sS n D d + j))
    rw [Int.zero_add]
theorem al_nn {a b : Int} (h : 0 ≤ (if a < 0 then -1 else b)) : ¬ a < 0 := fun e => by rw [if_pos e] at h; omega
theorem al_np {n D a : Int} (h : (if a < 0 then -1 else sL n D a) < 0) : a < 0 := by
  by_cases e : a < 0
  · exact e
  · rw [if_neg e] at h
    have := sL_b n D a
    omega
