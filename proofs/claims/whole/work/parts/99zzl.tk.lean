/-! texts: runs of signs, tokens -/
theorem shl5 (a : Int) : en_lshl a 5 = w64 (a * 32) := by
  unfold en_lshl
  rw [← nu_toInt64, Int64.ofInt_mul]
  congr 1
  apply Int64.toBitVec.inj
  rw [Int64.toBitVec_mul]
  show (Int64.ofInt a).toBitVec <<< (((Int32.ofInt 5).toInt64 &&& 63).toBitVec.smod 64) = _
  rw [bt_s (by decide), BitVec.shiftLeft_eq', show (BitVec.ofNat 64 (5 : Int).toNat).toNat = 5 by decide, BitVec.shiftLeft_eq_mul_twoPow]
  rfl
noncomputable def rnF (q : Int → Prop) : Nat → Int → Int
  | 0, i => i
  | f + 1, i => @ite Int (q i) (Classical.propDecidable _) (rnF q f (i + 1)) i
/-- the first place from i on where q fails, N at most -/
noncomputable def rn (q : Int → Prop) (N i : Int) : Int := rnF q (N - i).toNat i
theorem rnF_eq (q : Int → Prop) {N : Int} : ∀ (f : Nat) (i r : Int), (f : Int) = N - i → i ≤ r → r ≤ N → (∀ j, i ≤ j → j < r → q j) → (r < N → ¬ q r) → rnF q f i = r
  | 0, i, r, h, h1, h2, _, _ => by
    show i = r
    omega
  | f + 1, i, r, h, h1, h2, h3, h4 => by
    show (@ite Int (q i) (Classical.propDecidable _) (rnF q f (i + 1)) i) = r
    by_cases e : i = r
    · rw [if_neg (by rw [e]; exact h4 (by omega))]
      exact e
    · rw [if_pos (h3 i (Int.le_refl i) (by omega))]
      exact rnF_eq q f (i + 1) r (by omega) (by omega) h2 (fun j a b => h3 j (by omega) b) h4
theorem rn_eq {q : Int → Prop} {N i r : Int} (h1 : i ≤ r) (h2 : r ≤ N) (h3 : ∀ j, i ≤ j → j < r → q j) (h4 : r < N → ¬ q r) : rn q N i = r := rnF_eq q (N - i).toNat i r (by omega) h1 h2 h3 h4
theorem rnF_b (q : Int → Prop) {N : Int} : ∀ (f : Nat) (i : Int), (f : Int) = N - i → (i ≤ rnF q f i ∧ rnF q f i ≤ N) ∧ (∀ j, i ≤ j → j < rnF q f i → q j) ∧ (rnF q f i < N → ¬ q (rnF q f i))
  | 0, i, h => by
    show (i ≤ i ∧ i ≤ N) ∧ (∀ j, i ≤ j → j < i → q j) ∧ (i < N → ¬ q i)
    exact ⟨by omega, fun j a b => absurd b (by omega), fun g => absurd g (by omega)⟩
  | f + 1, i, h => by
    show (i ≤ (@ite Int (q i) (Classical.propDecidable _) (rnF q f (i + 1)) i) ∧ (@ite Int (q i) (Classical.propDecidable _) (rnF q f (i + 1)) i) ≤ N) ∧ (∀ j, i ≤ j → j < (@ite Int (q i) (Classical.propDecidable _) (rnF q f (i + 1)) i) → q j) ∧ ((@ite Int (q i) (Classical.propDecidable _) (rnF q f (i + 1)) i) < N → ¬ q (@ite Int (q i) (Classical.propDecidable _) (rnF q f (i + 1)) i))
    by_cases e : q i
    · rw [if_pos e]
      have g := rnF_b q (N := N) f (i + 1) (by omega)
      refine ⟨by omega, fun j a b => ?_, g.2.2⟩
      by_cases c : j = i
      · rw [c]; exact e
      · exact g.2.1 j (by omega) b
    · rw [if_neg e]
      exact ⟨by omega, fun j a b => absurd b (by omega), fun _ => e⟩
theorem rn_b {q : Int → Prop} {N i : Int} (h : i ≤ N) : (i ≤ rn q N i ∧ rn q N i ≤ N) ∧ (∀ j, i ≤ j → j < rn q N i → q j) ∧ (rn q N i < N → ¬ q (rn q N i)) := rnF_b q (N - i).toNat i (by omega)
def isBl (c : Int) : Prop := c = 9 ∨ c = 10 ∨ c = 13 ∨ c = 32
def isLe (c : Int) : Prop := 97 ≤ c ∧ c ≤ 122
def isDi (c : Int) : Prop := 48 ≤ c ∧ c ≤ 57
/-- the next place that is no blank -/
noncomputable def sk (b : Int → Int) (N i : Int) : Int := rn (fun j => isBl (b j)) N i
noncomputable def teL (b : Int → Int) (N i : Int) : Int := rn (fun j => isLe (b j)) N i
noncomputable def teD (b : Int → Int) (N i : Int) : Int := rn (fun j => isDi (b j)) N i
/-- where the token that begins at i ends -/
noncomputable def te (b : Int → Int) (N i : Int) : Int := if 97 ≤ b i ∧ b i ≤ 122 then teL b N i else if 48 ≤ b i ∧ b i ≤ 57 then teD b N i else i + 1
/-- m letters from i on, told with a base -/
def wf (x : Int) (b : Int → Int) (i : Int) : Nat → Int
  | 0 => 0
  | m + 1 => x * wf x b i m + (b (i + m) - 96)
/-- m digits from i on -/
def df (b : Int → Int) (i : Int) : Nat → Int
  | 0 => 0
  | m + 1 => 10 * df b i m + (b (i + m) - 48)
def sgk (c : Int) : Int := if c = 59 then 7 else if c = 61 then 8 else if c = 43 then 9 else if c = 45 then 10 else if c = 40 then 11 else if c = 41 then 12 else 0
def wkd (v : Int) : Int := if v = 17376677 then 1 else if v = 408572082 then 2 else if v = 655 then 3 else if v = 12343 then 4 else 5
/-- a token's kind, in the class's numbers -/
noncomputable def kd (b : Int → Int) (N i : Int) : Int := if 97 ≤ b i ∧ b i ≤ 122 then (if 8 < teL b N i - i then 0 else wkd (wf 32 b i (teL b N i - i).toNat)) else if 48 ≤ b i ∧ b i ≤ 57 then (if 4 < teD b N i - i then 0 else 6) else sgk (b i)
noncomputable def tp (b : Int → Int) (N : Int) : Nat → Int
  | 0 => sk b N 0
  | k + 1 => sk b N (te b N (tp b N k))
theorem wkd_b (v : Int) : 1 ≤ wkd v ∧ wkd v ≤ 5 := by
  unfold wkd
  by_cases h1 : v = 17376677
  · rw [if_pos h1]; decide
  rw [if_neg h1]
  by_cases h2 : v = 408572082
  · rw [if_pos h2]; decide
  rw [if_neg h2]
  by_cases h3 : v = 655
  · rw [if_pos h3]; decide
  rw [if_neg h3]
  by_cases h4 : v = 12343
  · rw [if_pos h4]; decide
  rw [if_neg h4]; decide
theorem sgk_b (c : Int) : 0 ≤ sgk c ∧ sgk c ≤ 12 := by
  unfold sgk
  by_cases h1 : c = 59
  · rw [if_pos h1]; decide
  rw [if_neg h1]
  by_cases h2 : c = 61
  · rw [if_pos h2]; decide
  rw [if_neg h2]
  by_cases h3 : c = 43
  · rw [if_pos h3]; decide
  rw [if_neg h3]
  by_cases h4 : c = 45
  · rw [if_pos h4]; decide
  rw [if_neg h4]
  by_cases h5 : c = 40
  · rw [if_pos h5]; decide
  rw [if_neg h5]
  by_cases h6 : c = 41
  · rw [if_pos h6]; decide
  rw [if_neg h6]; decide
