/-! the words of the laws, term by term -/
def tpr (V : Int → q2) (TL : Int → Int) (t : Int) : Nat → q2
  | 0 => q2I
  | m + 1 => q2m (tpr V TL t m) (V (TL (t * 7 + m)))
def tmV (s p : Int) (TS TL : Int → Int) (V : Int → q2) (a : Int) (d m : Nat) : q2 := q2S (fun k => q2m (rh s p (TS (a + k))) (tpr V TL (a + k) d)) m
def tmB (s p n : Int) (TS TH TL : Int → Int) (a b top ln : Int) : Prop := ∀ t, a ≤ t → t < b → (0 ≤ TS t ∧ TS t < sqN s p) ∧ (0 ≤ TH t ∧ TH t < ln) ∧ (t = a → TH t = 0) ∧ (∀ j, 0 ≤ j → j < ln → 0 ≤ TL (t * 7 + j) ∧ TL (t * 7 + j) ≤ top) ∧ ∀ j, 0 ≤ j → j < TH t → TL (t * 7 + j) = TL ((t - 1) * 7 + j)
/-- a law's terms stand there -/
def tmA (s p n D : Int) (TS TH TL LE LT : Int → Int) (ln : Int) (lc : Int → Int) (i : Int) : Prop := (0 ≤ LE i ∧ LE i ≤ LE (i + 1) ∧ LE (i + 1) ≤ 2048) ∧ (-1 ≤ LT i ∧ LT i < n) ∧ (0 ≤ LT i → 1 ≤ ln) ∧ (0 ≤ ln ∧ ln ≤ 7) ∧ tmB s p n TS TH TL (LE i) (LE (i + 1)) (LT i) ln ∧
  (0 < ln → ∀ v : Int → Int, q2E p (lvl (fun x => rh s p (v x)) n (sW n D ln) ln.toNat lc) (tmV s p TS TL (fun x => rh s p (v x)) (LE i) ln.toNat (LE (i + 1) - LE i).toNat))
section TMC
variable {s p n D : Int}
theorem tpr_s (V : Int → q2) (TL : Int → Int) (t : Int) {m : Int} (h : 0 ≤ m) : tpr V TL t (m + 1).toNat = q2m (tpr V TL t m.toNat) (V (TL (t * 7 + m))) := by
  rw [show (m + 1).toNat = m.toNat + 1 by omega]
  show q2m (tpr V TL t m.toNat) (V (TL (t * 7 + (m.toNat : Int)))) = _
  rw [show ((m.toNat : Nat) : Int) = m by omega]
theorem tpr_x (V : Int → q2) {TL : Int → Int} {t u : Int} : ∀ m : Nat, (∀ j : Int, 0 ≤ j → j < m → TL (t * 7 + j) = TL (u * 7 + j)) → tpr V TL t m = tpr V TL u m
  | 0, _ => rfl
  | m + 1, h => by
    show q2m (tpr V TL t m) (V (TL (t * 7 + m))) = q2m (tpr V TL u m) (V (TL (u * 7 + m)))
    rw [tpr_x V m (fun j a b => h j a (by omega)), h m (by omega) (by omega)]
theorem tpr_V {V U : Int → q2} {TL : Int → Int} {t top : Int} : ∀ m : Nat, (∀ j : Int, 0 ≤ j → j < m → 0 ≤ TL (t * 7 + j) ∧ TL (t * 7 + j) ≤ top) → (∀ x, 0 ≤ x → x ≤ top → V x = U x) → tpr V TL t m = tpr U TL t m
  | 0, _, _ => rfl
  | m + 1, h, g => by
    show q2m (tpr V TL t m) (V (TL (t * 7 + m))) = q2m (tpr U TL t m) (U (TL (t * 7 + m)))
    have := h m (by omega) (by omega)
    rw [tpr_V m (fun j a b => h j a (by omega)) g, g _ this.1 this.2]
theorem tmV_s (TS TL : Int → Int) (V : Int → q2) (a : Int) (d : Nat) {m : Int} (h : 0 ≤ m) : tmV s p TS TL V a d (m + 1).toNat = q2a (tmV s p TS TL V a d m.toNat) (q2m (rh s p (TS (a + m))) (tpr V TL (a + m) d)) := by
  unfold tmV
  rw [q2S_s _ h]
theorem q2S_x {f g : Int → q2} : ∀ m : Nat, (∀ j : Int, 0 ≤ j → j < m → f j = g j) → q2S f m = q2S g m
  | 0, _ => rfl
  | m + 1, h => by
    show q2a (q2S f m) (f m) = q2a (q2S g m) (g m)
    rw [q2S_x m (fun j a b => h j a (by omega)), h m (by omega) (by omega)]
/-- a law of the letters up to its top only -/
theorem tmA_dep {TS TH TL LE LT : Int → Int} {ln : Int} {lc : Int → Int} {i : Int} (h : tmA s p n D TS TH TL LE LT ln lc i) (hl : 0 < ln) {v u : Int → Int} (hvu : ∀ x, 0 ≤ x → x ≤ LT i → v x = u x) (hz : q2z p (lvl (fun x => rh s p (v x)) n (sW n D ln) ln.toNat lc)) : q2z p (lvl (fun x => rh s p (u x)) n (sW n D ln) ln.toNat lc) := by
  obtain ⟨h1, h2, h3, h4, h5, h6⟩ := h
  refine q2z_iff.mpr (q2E_t (h6 hl u) (q2E_t ?_ (q2E_t (q2E_s (h6 hl v)) (q2z_iff.mp hz))))
  refine q2E_of (q2S_x _ (fun k a b => ?_))
  have e := h5 (LE i + k) (by omega) (by omega)
  rw [tpr_V (V := fun x => rh s p (u x)) (U := fun x => rh s p (v x)) (top := LT i) ln.toNat (fun j c d => e.2.2.2.1 j c (by omega)) (fun x c d => by rw [hvu x c d])]
/-- a law without terms holds; one whose letters are all nought holds -/
theorem tmA_no {TS TH TL LE LT : Int → Int} {ln : Int} {lc : Int → Int} {i : Int} (h : tmA s p n D TS TH TL LE LT ln lc i) (hl : 0 < ln) (ht : LT i < 0) (v : Int → Int) : q2z p (lvl (fun x => rh s p (v x)) n (sW n D ln) ln.toNat lc) := by
  obtain ⟨h1, h2, h3, h4, h5, h6⟩ := h
  refine q2z_iff.mpr (q2E_t (h6 hl v) ?_)
  have e : LE (i + 1) - LE i ≤ 0 := by
    rcases Int.lt_or_le (LE i) (LE (i + 1)) with g | g
    · have := (h5 (LE i) (Int.le_refl _) g).2.2.2.1 0 (Int.le_refl 0) hl
      omega
    · omega
  rw [show (LE (i + 1) - LE i).toNat = 0 by omega]
  exact q2E_r p _
theorem tmA_z {TS TH TL LE LT : Int → Int} {ln : Int} {lc : Int → Int} {i : Int} (hp : 2 ≤ p) (h : tmA s p n D TS TH TL LE LT ln lc i) (hl : 0 < ln) {v : Int → Int} (hv : ∀ x, 0 ≤ x → x ≤ LT i → v x = 0) (hn : 0 < n) : q2z p (lvl (fun x => rh s p (v x)) n (sW n D ln) ln.toNat lc) := by
  refine tmA_dep h hl (v := fun _ => 0) (u := v) (fun x a b => (hv x a b).symm) ?_
  exact q2z_iff.mpr (lvl_O hn (by omega) (fun x _ _ => q2E_of (by rw [rh_0])))
/-- what stands ready of a term's products -/
def prI (s p : Int) (PD TL : Int → Int) (V : Int → q2) (t m : Int) : Prop := ∀ j, 0 ≤ j → j < m → (0 ≤ PD j ∧ PD j < sqN s p) ∧ q2E p (rh s p (PD j)) (tpr V TL t (j + 1).toNat)
theorem prI_next {PD TL : Int → Int} {V : Int → q2} {t m m' : Int} (h : prI s p PD TL V (t - 1) m) (hm : m' ≤ m) (e : ∀ j, 0 ≤ j → j < m' → TL (t * 7 + j) = TL ((t - 1) * 7 + j)) : prI s p PD TL V t m' := fun j a b => by
  have k := h j a (by omega)
  rw [tpr_x V (t := t) (u := t - 1) (j + 1).toNat (fun x x0 x1 => e x x0 (by omega))]
  exact k
theorem prI_0 {PD TL : Int → Int} {v : Int → Int} {t z : Int} (hz : 0 ≤ z ∧ z < sqN s p) (hv : z = v (TL (t * 7 + 0))) : prI s p (up PD 0 z) TL (fun x => rh s p (v x)) t 1 := fun j a b => by
  rw [show j = 0 by omega, up_eq]
  refine ⟨hz, ?_⟩
  show q2E p (rh s p z) (q2m q2I (rh s p (v (TL (t * 7 + ((0 : Nat) : Int))))))
  rw [q2_Il, hv]
  exact q2E_r p _
theorem prI_s (hp : 2 ≤ p) {PD TL : Int → Int} {v : Int → Int} {t j z : Int} (h : prI s p PD TL (fun x => rh s p (v x)) t j) (hj : 1 ≤ j) (hv : z = v (TL (t * 7 + j))) : prI s p (up PD j (qpr s p (PD (j - 1)) z)) TL (fun x => rh s p (v x)) t (j + 1) := fun k a b => by
  by_cases g : k = j
  · rw [g, up_eq]
    refine ⟨io_b hp _, ?_⟩
    rw [tpr_s _ _ _ (show 0 ≤ j by omega)]
    refine q2E_t (rh_pr hp _ _) (q2E_m ?_ (q2E_of (by rw [hv])))
    have := (h (j - 1) (by omega) (by omega)).2
    rw [Int.sub_add_cancel] at this
    exact this
  · rw [up_ne g]
    exact h k a (by omega)
/-- a sum so far -/
theorem tm_add (hp : 2 ≤ p) {PD TS TL : Int → Int} {v : Int → Int} {a al k ln : Int} (hk : 0 ≤ k) (hl : 1 ≤ ln) (h : q2E p (rh s p al) (tmV s p TS TL (fun x => rh s p (v x)) a ln.toNat k.toNat)) (hP : prI s p PD TL (fun x => rh s p (v x)) (a + k) ln) : q2E p (rh s p (qsm s p al (qpr s p (TS (a + k)) (PD (ln - 1))))) (tmV s p TS TL (fun x => rh s p (v x)) a ln.toNat (k + 1).toNat) := by
  rw [tmV_s _ _ _ _ _ hk]
  refine q2E_t (rh_sm hp _ _) (q2E_a h (q2E_t (rh_pr hp _ _) (q2E_m (q2E_r p _) ?_)))
  have := (hP (ln - 1) (by omega) (by omega)).2
  rw [Int.sub_add_cancel] at this
  exact this
theorem rh_z (hp : 2 ≤ p) {a : Int} (ha : 0 ≤ a ∧ a < sqN s p) : a = 0 ↔ q2z p (rh s p a) := by
  constructor
  · intro e
    rw [e, rh_0]
    exact ⟨Int.zero_emod p, Int.zero_emod p, Int.zero_emod p, Int.zero_emod p⟩
  · intro h
    have e := io_E (s := s) (q2z_iff.mp h)
    rw [io_rh hp ha] at e
    rw [e]
    have := io_rh (s := s) hp (a := 0) ⟨Int.le_refl 0, sqN_p hp⟩
    rw [rh_0] at this
    exact this
end TMC
