/-! squares of numbers: sums, products, rests; words and laws of squares -/
abbrev q2 : Type := Int × Int × Int × Int
def q2m (a b : q2) : q2 := (a.1 * b.1 + a.2.1 * b.2.2.1, a.1 * b.2.1 + a.2.1 * b.2.2.2, a.2.2.1 * b.1 + a.2.2.2 * b.2.2.1, a.2.2.1 * b.2.1 + a.2.2.2 * b.2.2.2)
def q2a (a b : q2) : q2 := (a.1 + b.1, a.2.1 + b.2.1, a.2.2.1 + b.2.2.1, a.2.2.2 + b.2.2.2)
def q2s (c : Int) (a : q2) : q2 := (c * a.1, c * a.2.1, c * a.2.2.1, c * a.2.2.2)
def q2I : q2 := (1, 0, 0, 1)
def q2O : q2 := (0, 0, 0, 0)
def q2E (p : Int) (a b : q2) : Prop := mE p a.1 b.1 ∧ mE p a.2.1 b.2.1 ∧ mE p a.2.2.1 b.2.2.1 ∧ mE p a.2.2.2 b.2.2.2
theorem q2x {a b : q2} (h1 : a.1 = b.1) (h2 : a.2.1 = b.2.1) (h3 : a.2.2.1 = b.2.2.1) (h4 : a.2.2.2 = b.2.2.2) : a = b := by
  obtain ⟨a1, a2, a3, a4⟩ := a
  obtain ⟨b1, b2, b3, b4⟩ := b
  dsimp only at h1 h2 h3 h4
  subst h1; subst h2; subst h3; subst h4
  rfl
theorem q2E_r (p : Int) (a : q2) : q2E p a a := ⟨mE_rfl p _, mE_rfl p _, mE_rfl p _, mE_rfl p _⟩
theorem q2E_of {p : Int} {a b : q2} (h : a = b) : q2E p a b := h ▸ q2E_r p a
theorem q2E_s {p : Int} {a b : q2} (h : q2E p a b) : q2E p b a := ⟨mE_symm h.1, mE_symm h.2.1, mE_symm h.2.2.1, mE_symm h.2.2.2⟩
theorem q2E_t {p : Int} {a b c : q2} (h : q2E p a b) (g : q2E p b c) : q2E p a c := ⟨mE_trans h.1 g.1, mE_trans h.2.1 g.2.1, mE_trans h.2.2.1 g.2.2.1, mE_trans h.2.2.2 g.2.2.2⟩
theorem q2E_m {p : Int} {a b c d : q2} (h : q2E p a b) (g : q2E p c d) : q2E p (q2m a c) (q2m b d) :=
  ⟨mE_add (mE_mul h.1 g.1) (mE_mul h.2.1 g.2.2.1), mE_add (mE_mul h.1 g.2.1) (mE_mul h.2.1 g.2.2.2), mE_add (mE_mul h.2.2.1 g.1) (mE_mul h.2.2.2 g.2.2.1), mE_add (mE_mul h.2.2.1 g.2.1) (mE_mul h.2.2.2 g.2.2.2)⟩
theorem q2E_a {p : Int} {a b c d : q2} (h : q2E p a b) (g : q2E p c d) : q2E p (q2a a c) (q2a b d) := ⟨mE_add h.1 g.1, mE_add h.2.1 g.2.1, mE_add h.2.2.1 g.2.2.1, mE_add h.2.2.2 g.2.2.2⟩
theorem q2E_c {p c d : Int} {a b : q2} (e : mE p c d) (h : q2E p a b) : q2E p (q2s c a) (q2s d b) := ⟨mE_mul e h.1, mE_mul e h.2.1, mE_mul e h.2.2.1, mE_mul e h.2.2.2⟩
theorem q2_as (a b c : q2) : q2m (q2m a b) c = q2m a (q2m b c) := by
  apply q2x <;> simp only [q2m] <;> grind
theorem q2_Il (a : q2) : q2m q2I a = a := by
  apply q2x <;> simp only [q2m, q2I] <;> grind
theorem q2_Ir (a : q2) : q2m a q2I = a := by
  apply q2x <;> simp only [q2m, q2I] <;> grind
theorem q2_sl (c : Int) (a b : q2) : q2m (q2s c a) b = q2s c (q2m a b) := by
  apply q2x <;> simp only [q2m, q2s] <;> grind
theorem q2_sr (c : Int) (a b : q2) : q2m a (q2s c b) = q2s c (q2m a b) := by
  apply q2x <;> simp only [q2m, q2s] <;> grind
theorem q2_ss (c d : Int) (a : q2) : q2s c (q2s d a) = q2s (c * d) a := by
  apply q2x <;> simp only [q2s] <;> grind
theorem q2_s1 (a : q2) : q2s 1 a = a := by
  apply q2x <;> simp only [q2s] <;> omega
theorem q2_ml (a b c : q2) : q2m a (q2a b c) = q2a (q2m a b) (q2m a c) := by
  apply q2x <;> simp only [q2m, q2a] <;> grind
theorem q2_mr (a b c : q2) : q2m (q2a a b) c = q2a (q2m a c) (q2m b c) := by
  apply q2x <;> simp only [q2m, q2a] <;> grind
theorem q2_sa (c : Int) (a b : q2) : q2s c (q2a a b) = q2a (q2s c a) (q2s c b) := by
  apply q2x <;> simp only [q2s, q2a] <;> grind
theorem q2_mO (a : q2) : q2m a q2O = q2O := by
  apply q2x <;> simp only [q2m, q2O] <;> omega
theorem q2_Om (a : q2) : q2m q2O a = q2O := by
  apply q2x <;> simp only [q2m, q2O] <;> omega
theorem q2_sO (c : Int) : q2s c q2O = q2O := by
  apply q2x <;> simp only [q2s, q2O] <;> omega
/-- one inverse from the left is one from the right -/
def q2d (a : q2) : Int := a.1 * a.2.2.2 - a.2.1 * a.2.2.1
theorem q2_inv {p : Int} {g h : q2} (e : q2E p (q2m g h) q2I) : q2E p (q2m h g) q2I := by
  have hd : mE p (q2d (q2m g h)) 1 := by
    have := mE_sub (mE_mul e.1 e.2.2.2) (mE_mul e.2.1 e.2.2.1)
    exact mE_trans this (mE_of (by decide))
  have hd2 : q2d (q2m h g) = q2d (q2m g h) := by simp only [q2d, q2m]; grind
  have h1 : q2E p (q2m (q2m h g) (q2m h g)) (q2m h g) := by
    rw [q2_as, ← q2_as g h g]
    exact q2E_t (q2E_m (q2E_r p h) (q2E_m e (q2E_r p g))) (q2E_of (by rw [q2_Il]))
  generalize hP : q2m h g = P at h1 hd2 ⊢
  have h2 := q2E_m (q2E_r p ((P.2.2.2, -P.2.1, -P.2.2.1, P.1) : q2)) h1
  rw [← q2_as] at h2
  have e1 : q2m ((P.2.2.2, -P.2.1, -P.2.2.1, P.1) : q2) P = q2s (q2d P) q2I := by
    apply q2x <;> simp only [q2m, q2s, q2d, q2I] <;> grind
  rw [e1, q2_sl, q2_Il] at h2
  have k : mE p (q2d P) 1 := by rw [hd2]; exact hd
  have h3 := q2E_t (q2E_s (q2E_c k (q2E_r p P))) h2
  rw [q2_s1] at h3
  have h4 := q2E_c k (q2E_r p q2I)
  rw [q2_s1] at h4
  exact q2E_t h3 h4
/-- sums of squares -/
def q2S (f : Int → q2) : Nat → q2
  | 0 => q2O
  | m + 1 => q2a (q2S f m) (f m)
theorem q2S_s (f : Int → q2) {k : Int} (h : 0 ≤ k) : q2S f (k + 1).toNat = q2a (q2S f k.toNat) (f k) := by
  rw [show (k + 1).toNat = k.toNat + 1 by omega]
  show q2a (q2S f k.toNat) (f (k.toNat : Int)) = _
  rw [show ((k.toNat : Nat) : Int) = k by omega]
theorem q2S_l (g : q2) (f : Int → q2) : ∀ m : Nat, q2m g (q2S f m) = q2S (fun w => q2m g (f w)) m
  | 0 => q2_mO g
  | m + 1 => by
    show q2m g (q2a (q2S f m) (f m)) = q2a (q2S (fun w => q2m g (f w)) m) (q2m g (f m))
    rw [q2_ml, q2S_l g f m]
theorem q2S_r (g : q2) (f : Int → q2) : ∀ m : Nat, q2m (q2S f m) g = q2S (fun w => q2m (f w) g) m
  | 0 => q2_Om g
  | m + 1 => by
    show q2m (q2a (q2S f m) (f m)) g = q2a (q2S (fun w => q2m (f w) g) m) (q2m (f m) g)
    rw [q2_mr, q2S_r g f m]
theorem q2S_c (c : Int) (f : Int → q2) : ∀ m : Nat, q2s c (q2S f m) = q2S (fun w => q2s c (f w)) m
  | 0 => q2_sO c
  | m + 1 => by
    show q2s c (q2a (q2S f m) (f m)) = q2a (q2S (fun w => q2s c (f w)) m) (q2s c (f m))
    rw [q2_sa, q2S_c c f m]
theorem q2S_E {p : Int} {f g : Int → q2} : ∀ m : Nat, (∀ j : Int, 0 ≤ j → j < m → q2E p (f j) (g j)) → q2E p (q2S f m) (q2S g m)
  | 0, _ => q2E_r p q2O
  | m + 1, h => q2E_a (q2S_E m (fun j a b => h j a (by omega))) (h m (by omega) (by omega))
theorem q2S_O {p : Int} {f : Int → q2} (m : Nat) (h : ∀ j : Int, 0 ≤ j → j < m → q2E p (f j) q2O) : q2E p (q2S f m) q2O := by
  have e : ∀ m : Nat, q2S (fun _ => q2O) m = q2O := by
    intro m
    induction m with
    | zero => rfl
    | succ m ih => show q2a (q2S (fun _ => q2O) m) q2O = q2O; rw [ih]; rfl
  have := q2S_E (p := p) (f := f) (g := fun _ => q2O) m h
  rwa [e] at this
/-- a word of squares -/
def wpr (V : Int → q2) (n : Int) : Nat → Int → q2
  | 0, _ => q2I
  | d + 1, w => q2m (wpr V n d (w / n)) (V (w % n))
theorem wpr_E {p n : Int} {V U : Int → q2} (hn : 0 < n) (h : ∀ x, 0 ≤ x → x < n → q2E p (V x) (U x)) : ∀ (d : Nat) (w : Int), q2E p (wpr V n d w) (wpr U n d w)
  | 0, w => q2E_r p _
  | d + 1, w => q2E_m (wpr_E hn h d (w / n)) (h _ (Int.emod_nonneg _ (by omega)) (Int.emod_lt_of_pos _ hn))
theorem wpr_cj {p n c : Int} {g h : q2} (V : Int → q2) (e1 : q2E p (q2m g h) q2I) : ∀ (d : Nat) (w : Int), q2E p (wpr (fun x => q2s c (q2m (q2m g (V x)) h)) n d w) (q2s (c ^ d) (q2m (q2m g (wpr V n d w)) h))
  | 0, w => by
    show q2E p q2I (q2s (c ^ 0) (q2m (q2m g q2I) h))
    rw [Int.pow_zero, q2_s1, q2_Ir]
    exact q2E_s e1
  | d + 1, w => by
    have e2 := q2_inv e1
    show q2E p (q2m (wpr (fun x => q2s c (q2m (q2m g (V x)) h)) n d (w / n)) (q2s c (q2m (q2m g (V (w % n))) h))) (q2s (c ^ (d + 1)) (q2m (q2m g (q2m (wpr V n d (w / n)) (V (w % n)))) h))
    refine q2E_t (q2E_m (wpr_cj V e1 d (w / n)) (q2E_r p _)) ?_
    rw [q2_sl, q2_sr, q2_ss, ← Int.pow_succ]
    refine q2E_c (mE_rfl p _) ?_
    have a1 : q2m (q2m (q2m g (wpr V n d (w / n))) h) (q2m (q2m g (V (w % n))) h) = q2m (q2m (q2m g (wpr V n d (w / n))) (q2m h g)) (q2m (V (w % n)) h) := by
      simp only [q2_as]
    rw [a1]
    refine q2E_t (q2E_m (q2E_m (q2E_r p _) e2) (q2E_r p _)) ?_
    rw [q2_Ir]
    exact q2E_of (by simp only [q2_as])
/-- what a law makes of squares -/
def lvl (V : Int → q2) (n W : Int) (d : Nat) (c : Int → Int) : q2 := q2S (fun w => q2s (c w) (wpr V n d w)) W.toNat
theorem lvl_E {p n W : Int} {V U : Int → q2} {d : Nat} {c : Int → Int} (hn : 0 < n) (h : ∀ x, 0 ≤ x → x < n → q2E p (V x) (U x)) : q2E p (lvl V n W d c) (lvl U n W d c) :=
  q2S_E _ (fun j _ _ => q2E_c (mE_rfl p _) (wpr_E hn h d j))
theorem lvl_cj {p n W c : Int} {g h : q2} {V : Int → q2} {d : Nat} {co : Int → Int} (e1 : q2E p (q2m g h) q2I) : q2E p (lvl (fun x => q2s c (q2m (q2m g (V x)) h)) n W d co) (q2s (c ^ d) (q2m (q2m g (lvl V n W d co)) h)) := by
  unfold lvl
  rw [q2S_l, q2S_r, q2S_c]
  refine q2S_E _ (fun j _ _ => ?_)
  refine q2E_t (q2E_c (mE_rfl p _) (wpr_cj V e1 d j)) (q2E_of ?_)
  rw [q2_sr, q2_sl, q2_ss, q2_ss, Int.mul_comm]
theorem lvl_O {p n W : Int} {V : Int → q2} {d : Nat} {c : Int → Int} (hn : 0 < n) (hd : 1 ≤ d) (h : ∀ x, 0 ≤ x → x < n → q2E p (V x) q2O) : q2E p (lvl V n W d c) q2O := by
  refine q2S_O _ (fun j _ _ => ?_)
  have e : q2E p (wpr V n d j) q2O := by
    obtain ⟨e, rfl⟩ : ∃ e, d = e + 1 := ⟨d - 1, by omega⟩
    refine q2E_t (q2E_m (q2E_r p _) (h _ (Int.emod_nonneg _ (by omega)) (Int.emod_lt_of_pos _ hn))) (q2E_of (q2_mO _))
  exact q2E_t (q2E_c (mE_rfl p _) e) (q2E_of (q2_sO _))
def q2z (p : Int) (a : q2) : Prop := a.1 % p = 0 ∧ a.2.1 % p = 0 ∧ a.2.2.1 % p = 0 ∧ a.2.2.2 % p = 0
theorem q2z_iff {p : Int} {a : q2} : q2z p a ↔ q2E p a q2O := ⟨fun h => ⟨mE_z.mpr h.1, mE_z.mpr h.2.1, mE_z.mpr h.2.2.1, mE_z.mpr h.2.2.2⟩, fun h => ⟨mE_z.mp h.1, mE_z.mp h.2.1, mE_z.mp h.2.2.1, mE_z.mp h.2.2.2⟩⟩
/-- all laws hold: 1, else 0 -/
def alw (p n D : Int) (LN : Int → Int) (LC : Int → Int → Int) (V : Int → q2) : Nat → Prop
  | 0 => True
  | k + 1 => alw p n D LN LC V k ∧ (0 < LN k → q2z p (lvl V n (sW n D (LN k)) (LN k).toNat (LC k)))
theorem alw_iff {p n D : Int} {LN : Int → Int} {LC : Int → Int → Int} {V : Int → q2} : ∀ m : Nat, alw p n D LN LC V m ↔ ∀ k : Int, 0 ≤ k → k < m → 0 < LN k → q2z p (lvl V n (sW n D (LN k)) (LN k).toNat (LC k))
  | 0 => ⟨fun _ k a b => by omega, fun _ => trivial⟩
  | m + 1 => by
    show (alw p n D LN LC V m ∧ _) ↔ _
    rw [alw_iff m]
    constructor
    · rintro ⟨h1, h2⟩ k a b c
      by_cases e : k = m
      · subst e; exact h2 c
      · exact h1 k a (by omega) c
    · intro h
      exact ⟨fun k a b c => h k a (by omega) c, h m (by omega) (by omega)⟩
noncomputable def alH (p n D : Int) (LN : Int → Int) (LC : Int → Int → Int) (m : Nat) (V : Int → q2) : Int := @ite Int (alw p n D LN LC V m) (Classical.propDecidable _) 1 0
theorem alH_t {p n D : Int} {LN : Int → Int} {LC : Int → Int → Int} {m : Nat} {V : Int → q2} (h : alw p n D LN LC V m) : alH p n D LN LC m V = 1 := if_pos h
theorem alH_f {p n D : Int} {LN : Int → Int} {LC : Int → Int → Int} {m : Nat} {V : Int → q2} (h : ¬ alw p n D LN LC V m) : alH p n D LN LC m V = 0 := if_neg h
theorem alH_eq {p n D : Int} {LN : Int → Int} {LC : Int → Int → Int} {m : Nat} {V U : Int → q2} (h : alw p n D LN LC V m ↔ alw p n D LN LC U m) : alH p n D LN LC m V = alH p n D LN LC m U := by
  by_cases g : alw p n D LN LC V m
  · rw [alH_t g, alH_t (h.mp g)]
  · rw [alH_f g, alH_f (fun k => g (h.mpr k))]
theorem alw_E {p n D : Int} {LN : Int → Int} {LC : Int → Int → Int} {m : Nat} {V U : Int → q2} (hn : 0 < n) (h : ∀ x, 0 ≤ x → x < n → q2E p (V x) (U x)) (hV : alw p n D LN LC V m) : alw p n D LN LC U m :=
  (alw_iff m).mpr (fun k a b c => q2z_iff.mpr (q2E_t (q2E_s (lvl_E hn h)) (q2z_iff.mp ((alw_iff m).mp hV k a b c))))
theorem alw_cj {p n D c : Int} {LN : Int → Int} {LC : Int → Int → Int} {m : Nat} {g h : q2} {V : Int → q2} (e1 : q2E p (q2m g h) q2I) (hV : alw p n D LN LC V m) : alw p n D LN LC (fun x => q2s c (q2m (q2m g (V x)) h)) m :=
  (alw_iff m).mpr (fun k a b l => q2z_iff.mpr (q2E_t (lvl_cj e1) (q2E_t (q2E_c (mE_rfl p _) (q2E_m (q2E_m (q2E_r p g) (q2z_iff.mp ((alw_iff m).mp hV k a b l))) (q2E_r p h))) (q2E_of (by rw [q2_mO, q2_Om, q2_sO])))))
