/-! THE MODEL'S ROWS of one length: R k is the row whose greatest word is k (L k = 1), V what they span -/
def rsp (L : Int → Int) (R : Int → Int → Int) (c : Int → Int) (W j : Int) : Int := sm (fun x => if L x = 1 then c x * R x j else 0) W.toNat
def mD (p W : Int) (V : (Int → Int) → Prop) (R : Int → Int → Int) (L : Int → Int) : Prop :=
  (∀ k, 0 ≤ k → k < W → L k = 0 ∨ L k = 1) ∧ (∀ k, 0 ≤ k → k < W → L k = 1 → R k k = 1) ∧ (∀ k j, 0 ≤ k → k < W → L k = 1 → k < j → j < W → R k j = 0) ∧ (∀ k j, 0 ≤ k → k < W → L k = 1 → 0 ≤ j → j < W → 0 ≤ R k j ∧ R k j < p) ∧ ∀ v, V v ↔ ∃ c : Int → Int, ∀ j, 0 ≤ j → j < W → mE p (v j) (rsp L R c W j)
section MD
variable {p W : Int} {V : (Int → Int) → Prop} {R : Int → Int → Int} {L : Int → Int}
theorem rsp_add (c d : Int → Int) (t j : Int) : rsp L R (fun x => c x + t * d x) W j = rsp L R c W j + t * rsp L R d W j := by
  unfold rsp
  rw [← sm_mul, ← sm_add]
  exact sm_ext _ (fun x _ _ => by
    show (if L x = 1 then (c x + t * d x) * R x j else 0) = (if L x = 1 then c x * R x j else 0) + t * (if L x = 1 then d x * R x j else 0)
    split
    · grind
    · omega)
theorem mD_sub (h : mD p W V R L) : vSub p W V := by
  obtain ⟨-, -, -, -, h⟩ := h
  refine ⟨(h _).mpr ⟨fun _ => 0, fun j _ _ => mE_of ?_⟩, fun a b t ha hb => ?_, fun a b hab ha => ?_⟩
  · unfold rsp
    rw [sm_zero _ (fun x _ _ => by show (if L x = 1 then 0 * R x j else 0) = 0; rw [Int.zero_mul]; split <;> rfl)]
  · obtain ⟨c, hc⟩ := (h _).mp ha
    obtain ⟨d, hd⟩ := (h _).mp hb
    refine (h _).mpr ⟨fun x => c x + t * d x, fun j g0 g1 => ?_⟩
    rw [rsp_add]
    exact mE_add (hc j g0 g1) (mE_mul (mE_rfl p t) (hd j g0 g1))
  · obtain ⟨c, hc⟩ := (h _).mp ha
    exact (h _).mpr ⟨c, fun j g0 g1 => mE_trans (mE_symm (mE_iff.mpr (hab j g0 g1))) (hc j g0 g1)⟩
theorem mD_row (h : mD p W V R L) {k : Int} (h0 : 0 ≤ k) (h1 : k < W) (hk : L k = 1) : V (R k) := by
  obtain ⟨-, -, -, -, h⟩ := h
  refine (h _).mpr ⟨fun x => if x = k then 1 else 0, fun j g0 g1 => mE_of ?_⟩
  show R k j = sm (fun x => if L x = 1 then (if x = k then 1 else 0) * R x j else 0) W.toNat
  rw [sm_one (k := k) _ h0 (by omega) (fun x _ _ e => by rw [if_neg e, Int.zero_mul]; split <;> rfl), if_pos hk, if_pos rfl, Int.one_mul]
theorem mD_le (h : mD p W V R L) {U : (Int → Int) → Prop} (hU : vSub p W U) (hr : ∀ k, 0 ≤ k → k < W → L k = 1 → U (R k)) {v : Int → Int} (hv : V v) : U v := by
  obtain ⟨-, -, -, -, h⟩ := h
  obtain ⟨c, hc⟩ := (h _).mp hv
  have h1 := vS_sm hU (fun x => if L x = 1 then c x else 0) R W.toNat (fun i g0 g1 g2 => hr i g0 (by omega) (by
    refine Decidable.byContradiction fun e => g2 ?_
    show p ∣ if L i = 1 then c i else 0
    rw [if_neg e]
    exact ⟨0, by omega⟩))
  refine vS_ext hU h1 (fun j g0 g1 => mE_trans (mE_of (sm_ext _ (fun x _ _ => ?_))) (mE_symm (hc j g0 g1)))
  show (if L x = 1 then c x else 0) * R x j = if L x = 1 then c x * R x j else 0
  split
  · rfl
  · exact Int.zero_mul _
theorem mD_top (h : mD p W V R L) {k : Int} (h0 : 0 ≤ k) (h1 : k < W) (hp : sPr p) : hasTop p W V k ↔ L k = 1 := by
  obtain ⟨h01, hu, ht, hr, hV⟩ := id h
  constructor
  · rintro ⟨v, hv, h2, h3⟩
    obtain ⟨c, hc⟩ := (hV _).mp hv
    -- the greatest row that counts
    rcases top_ex p (fun x => if L x = 1 then c x else 0) W.toNat with h4 | ⟨q, q0, q1, q2, q3⟩
    · exfalso
      apply h2
      refine mE_0.mp (mE_trans (hc k h0 h1) ?_)
      have : mE p (rsp L R c W k) (sm (fun _ => 0) W.toNat) := mE_sm _ (fun x g0 g1 => by
        show mE p (if L x = 1 then c x * R x k else 0) 0
        have h5 := h4 x g0 g1
        split
        · rename_i e
          have h5 : p ∣ if L x = 1 then c x else 0 := h5
          rw [if_pos e] at h5
          exact mE_0.mpr (Int.dvd_mul_of_dvd_left h5)
        · exact mE_rfl p 0)
      rw [sm_zero _ (fun _ _ _ => rfl)] at this
      exact this
    · have hq1 : L q = 1 := Decidable.byContradiction fun e => q2 (by show p ∣ if L q = 1 then c q else 0; rw [if_neg e]; exact ⟨0, by omega⟩)
      have q2 : ¬ p ∣ c q := by
        have q2 : ¬ p ∣ if L q = 1 then c q else 0 := q2
        rwa [if_pos hq1] at q2
      -- at a place j from q on only the row of q counts
      have key : ∀ j, q ≤ j → j < W → mE p (v j) (c q * R q j) := fun j g0 g1 => by
        refine mE_trans (hc j (by omega) g1) ?_
        have : mE p (rsp L R c W j) (sm (fun x => if x = q then c q * R q j else 0) W.toNat) := mE_sm _ (fun x i0 i1 => by
          show mE p (if L x = 1 then c x * R x j else 0) (if x = q then c q * R q j else 0)
          by_cases e : x = q
          · rw [if_pos e, e, if_pos hq1]; exact mE_rfl p _
          · rw [if_neg e]
            split
            · rename_i e2
              by_cases e3 : x < q
              · rw [ht x j i0 (by omega) e2 (by omega) g1, Int.mul_zero]; exact mE_rfl p 0
              · have h5 : p ∣ if L x = 1 then c x else 0 := q3 x (by omega) i1
                rw [if_pos e2] at h5
                exact mE_0.mpr (Int.dvd_mul_of_dvd_left h5)
            · exact mE_rfl p 0)
        rwa [sm_one (k := q) _ q0 q1 (fun x _ _ e => if_neg e), if_pos rfl] at this
      rcases Int.lt_trichotomy k q with e | e | e
      · exfalso
        have h5 := key q (Int.le_refl q) (by omega)
        rw [hu q q0 (by omega) hq1, Int.mul_one] at h5
        exact q2 (mE_0.mp (mE_trans (mE_symm h5) (mE_0.mpr (h3 q e (by omega)))))
      · rw [e]; exact hq1
      · exfalso
        have h5 := key k (by omega) h1
        rw [ht q k q0 (by omega) hq1 e h1, Int.mul_zero] at h5
        exact h2 (mE_0.mp h5)
  · intro e
    refine ⟨_, mD_row h h0 h1 e, ?_, fun j g0 g1 => ?_⟩
    · rw [hu k h0 h1 e]
      intro hd
      have := Int.le_of_dvd (by decide) hd
      have := hp.1
      omega
    · rw [ht k j h0 h1 e g0 g1]
      exact ⟨0, by omega⟩
/-- what a row is reduced to is its plain form -/
theorem mD_rd (h : mD p W V R L) (hp : sPr p) {X0 X : Int → Int} {l : Int} (hrd : rdI p W L R X0 X (-1) l) : isNF p W V X0 X := by
  obtain ⟨h01, hu, ht, hr, hV⟩ := id h
  obtain ⟨g1, g2, g3, g4, g5, g6⟩ := hrd
  refine ⟨g4 V (mD_sub h) (fun x h0 h1 e => vS_ext (mD_sub h) (mD_row h h0 h1 e) (fun j i0 i1 => mE_of ?_)), g2, fun k h0 h1 htop => g3 k (by omega) h1 ((mD_top h h0 h1 hp).mp htop)⟩
  show R x j = if j ≤ x then R x j else 0
  split
  · rfl
  · exact ht x j h0 h1 e (by omega) i1
/-- a row more that is nought already -/
theorem mD_same (h : mD p W V R L) {r : Int → Int} (hr : V r) : mD p W (vAdd V r) R L := by
  have hs := mD_sub h
  have e : ∀ v, vAdd V r v ↔ V v := fun v => ⟨fun hv => vAdd_le hs (fun _ g => g) hr hv, fun hv => vAdd_old hs hv⟩
  obtain ⟨a, b, c, d, g⟩ := h
  exact ⟨a, b, c, d, fun v => (e v).trans (g v)⟩
theorem mD_ins (h : mD p W V R L) (hp : sPr p) {r X : Int → Int} {l b : Int} (hX : V (fun j => r j - X j)) (h0 : 0 ≤ l) (h1 : l < W) (hLl : L l = 0) (htop : ∀ k, l < k → k < W → X k = 0) (hb : mE p (X l * b) 1) (R' : Int → Int → Int) (L' : Int → Int) (hR : ∀ k j, 0 ≤ k → k < W → 0 ≤ j → j < W → R' k j = if k = l then (X j * b) % p else R k j) (hL : ∀ k, 0 ≤ k → k < W → L' k = if k = l then 1 else L k) : mD p W (vAdd V r) R' L' := by
  obtain ⟨h01, hu, ht, hr, hV⟩ := id h
  have hs := mD_sub h
  refine ⟨fun k g0 g1 => ?_, fun k g0 g1 e => ?_, fun k j g0 g1 e g2 g3 => ?_, fun k j g0 g1 e g2 g3 => ?_, fun v => ?_⟩
  · rw [hL k g0 g1]
    split
    · exact Or.inr rfl
    · exact h01 k g0 g1
  · rw [hR k k g0 g1 g0 g1]
    rw [hL k g0 g1] at e
    split
    · rename_i c
      rw [c, mE_mod hb]
      exact Int.emod_eq_of_lt (by decide) (by have := hp.1; omega)
    · rename_i c
      rw [if_neg c] at e
      exact hu k g0 g1 e
  · rw [hR k j g0 g1 (by omega) g3]
    rw [hL k g0 g1] at e
    split
    · rw [htop j (by omega) g3, Int.zero_mul]
      exact Int.zero_emod p
    · rename_i c
      rw [if_neg c] at e
      exact ht k j g0 g1 e g2 g3
  · rw [hR k j g0 g1 g2 g3]
    rw [hL k g0 g1] at e
    split
    · exact sR_lt hp
    · rename_i c
      rw [if_neg c] at e
      exact hr k j g0 g1 e g2 g3
  · -- the new row counts t times
    have key : ∀ (c : Int → Int) (t j : Int), 0 ≤ j → j < W → mE p (rsp L' R' (fun x => if x = l then t else c x) W j) (rsp L R c W j + t * (X j * b)) := by
      intro c t j g0 g1
      have e1 : rsp L R c W j + t * (X j * b) = sm (fun x => (if L x = 1 then c x * R x j else 0) + (if x = l then t * (X j * b) else 0)) W.toNat := by
        rw [sm_add, sm_one (f := fun x => if x = l then t * (X j * b) else 0) (k := l) _ h0 (by omega) (fun x _ _ e => if_neg e), if_pos rfl]
        rfl
      rw [e1]
      refine mE_sm _ (fun x i0 i1 => ?_)
      show mE p (if L' x = 1 then (if x = l then t else c x) * R' x j else 0) ((if L x = 1 then c x * R x j else 0) + (if x = l then t * (X j * b) else 0))
      rw [hL x i0 (by omega), hR x j i0 (by omega) g0 g1]
      by_cases e : x = l
      · have e2 : ¬ L x = 1 := by rw [e]; omega
        simp only [if_pos e, if_neg e2, if_true, Int.zero_add]
        exact mE_mul (mE_rfl p t) (mE_emod p _)
      · simp only [if_neg e, Int.add_zero]
        exact mE_rfl p _
    have hXb : ∀ j, mE p (X l * (X j * b)) (X j) := fun j => by
      have := mE_mul hb (mE_rfl p (X j))
      rw [Int.one_mul] at this
      refine mE_trans (mE_of ?_) this
      grind
    constructor
    · rintro ⟨s, hs1⟩
      -- v = (v - s r) + s (r - X) + s X
      have h3 : V (fun j => v j - s * X j) := vS_ext hs (vS_add hs hs1 hX s) (fun j _ _ => mE_of (by grind))
      obtain ⟨c, hc⟩ := (hV _).mp h3
      refine ⟨fun x => if x = l then s * X l else c x, fun j g0 g1 => mE_trans ?_ (mE_symm (key c (s * X l) j g0 g1))⟩
      have h4 := mE_add (hc j g0 g1) (mE_mul (mE_rfl p s) (mE_symm (hXb j)))
      refine mE_trans (mE_of ?_) (mE_trans h4 (mE_of ?_))
      · show v j = v j - s * X j + s * X j
        omega
      · rw [Int.mul_assoc]
    · rintro ⟨c, hc⟩
      have h2 : V (fun j => v j - c l * b * X j) := (hV _).mpr ⟨c, fun j g0 g1 => by
        have h4 := key c (c l) j g0 g1
        have h5 : rsp L' R' (fun x => if x = l then c l else c x) W j = rsp L' R' c W j := by
          unfold rsp
          exact sm_ext _ (fun x _ _ => by
            show (if L' x = 1 then (if x = l then c l else c x) * R' x j else 0) = _
            by_cases e : x = l
            · rw [if_pos e, e]
            · rw [if_neg e])
        rw [h5] at h4
        have h6 := mE_sub (mE_trans (hc j g0 g1) h4) (mE_rfl p (c l * b * X j))
        refine mE_trans h6 (mE_of ?_)
        grind⟩
      refine ⟨c l * b, vS_ext hs (vS_add hs h2 hX (-(c l * b))) (fun j _ _ => mE_of ?_)⟩
      show v j - c l * b * X j + -(c l * b) * (r j - X j) = v j - c l * b * r j
      grind
end MD
