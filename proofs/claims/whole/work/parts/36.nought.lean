/-! THE CLASS'S FORMS of one length: F w is the plain form of the word w, L tells the leading words, V what is nought -/
def cD (p W : Int) (V : (Int → Int) → Prop) (F : Int → Int → Int) (L : Int → Int) : Prop :=
  (∀ w k, 0 ≤ w → w < W → 0 ≤ k → k < W → 0 ≤ F w k ∧ F w k < p) ∧ (∀ w k, 0 ≤ w → w < k → k < W → F w k = 0) ∧ (∀ w k, 0 ≤ w → w < W → 0 ≤ k → k < W → L k = 1 → F w k = 0) ∧ (∀ w, 0 ≤ w → w < W → L w = 0 → ∀ k, 0 ≤ k → k < W → F w k = if k = w then 1 else 0) ∧ (∀ w, 0 ≤ w → w < W → L w = 0 ∨ L w = 1) ∧ ∀ v, V v ↔ ∀ k, 0 ≤ k → k < W → p ∣ sm (fun w => v w * F w k) W.toNat
def nfs (F : Int → Int → Int) (W : Int) (v : Int → Int) (k : Int) : Int := sm (fun w => v w * F w k) W.toNat
def eW (w k : Int) : Int := if k = w then 1 else 0
section CD
variable {p W : Int} {V : (Int → Int) → Prop} {F : Int → Int → Int} {L : Int → Int}
theorem cD_sub (h : cD p W V F L) : vSub p W V := by
  obtain ⟨-, -, -, -, -, h⟩ := h
  refine ⟨(h _).mpr (fun k _ _ => ?_), fun a b c ha hb => (h _).mpr (fun k h0 h1 => ?_), fun a b hab ha => (h _).mpr (fun k h0 h1 => ?_)⟩
  · rw [sm_zero _ (fun j _ _ => Int.zero_mul _)]; exact ⟨0, by omega⟩
  · have e : sm (fun w => (a w + c * b w) * F w k) W.toNat = sm (fun w => a w * F w k) W.toNat + c * sm (fun w => b w * F w k) W.toNat := by
      rw [← sm_mul, ← sm_add]
      exact sm_ext _ (fun j _ _ => by grind)
    rw [e]
    exact Int.dvd_add ((h _).mp ha k h0 h1) (Int.dvd_mul_of_dvd_right ((h _).mp hb k h0 h1))
  · have e : mE p (sm (fun w => a w * F w k) W.toNat) (sm (fun w => b w * F w k) W.toNat) := mE_sm _ (fun j g0 g1 => mE_mul (mE_iff.mpr (hab j g0 (by omega))) (mE_rfl p _))
    exact mE_0.mp (mE_trans (mE_symm e) (mE_0.mpr ((h _).mp ha k h0 h1)))
theorem cD_FF (h : cD p W V F L) {v : Int → Int} {k : Int} (h0 : 0 ≤ k) (h1 : k < W) (hv : ∀ j, 0 ≤ j → j < W → L j = 1 → v j = 0) : sm (fun w => v w * F w k) W.toNat = v k := by
  obtain ⟨-, hu, hk, hn, h01, -⟩ := h
  rw [sm_one _ h0 (by omega) (fun j g0 g1 g2 => ?_)]
  · rcases h01 k h0 h1 with e | e
    · rw [hn k h0 h1 e k h0 h1, if_pos rfl, Int.mul_one]
    · rw [hv k h0 h1 e, Int.zero_mul]
  · rcases h01 j g0 (by omega) with e | e
    · rw [hn j g0 (by omega) e k h0 h1, if_neg (fun q => g2 q.symm), Int.mul_zero]
    · rw [hv j g0 (by omega) e, Int.zero_mul]
theorem cD_diff (h : cD p W V F L) (v : Int → Int) : V (fun j => v j - nfs F W v j) := by
  obtain ⟨hr, hu, hk, hn, h01, hV⟩ := id h
  refine (hV _).mpr (fun k h0 h1 => ?_)
  have e : sm (fun w => (v w - nfs F W v w) * F w k) W.toNat = sm (fun w => v w * F w k) W.toNat + (-1) * sm (fun w => nfs F W v w * F w k) W.toNat := by
    rw [← sm_mul, ← sm_add]
    exact sm_ext _ (fun j _ _ => by grind)
  rw [e, cD_FF h h0 h1 (v := nfs F W v) (fun j g0 g1 g2 => sm_zero _ (fun i i0 i1 => by rw [hk i j i0 (by omega) g0 g1 g2, Int.mul_zero]))]
  exact ⟨0, by unfold nfs; omega⟩
theorem cD_e (h : cD p W V F L) {w : Int} (h0 : 0 ≤ w) (h1 : w < W) : V (fun j => eW w j - F w j) := by
  have h2 := cD_diff h (eW w)
  refine vS_ext (cD_sub h) h2 (fun j g0 g1 => mE_of ?_)
  show eW w j - nfs F W (eW w) j = eW w j - F w j
  unfold nfs
  rw [sm_one _ h0 (by omega) (fun i _ _ i2 => by unfold eW; rw [if_neg i2, Int.zero_mul])]
  unfold eW
  rw [if_pos rfl, Int.one_mul]
theorem cD_top (h : cD p W V F L) {k : Int} (h0 : 0 ≤ k) (h1 : k < W) (hp : 2 ≤ p) : hasTop p W V k ↔ L k = 1 := by
  obtain ⟨hr, hu, hk, hn, h01, hV⟩ := id h
  constructor
  · rintro ⟨v, hv, h2, h3⟩
    rcases h01 k h0 h1 with e | e
    · exfalso
      have h4 := (hV v).mp hv k h0 h1
      have h5 : mE p (sm (fun w => v w * F w k) W.toNat) (sm (fun w => if w = k then v k else 0) W.toNat) := mE_sm _ (fun j g0 g1 => by
        show mE p (v j * F j k) (if j = k then v k else 0)
        by_cases c : j = k
        · rw [if_pos c, c, hn k h0 h1 e k h0 h1, if_pos rfl, Int.mul_one]; exact mE_rfl p _
        · rw [if_neg c]
          by_cases c2 : j < k
          · rw [hu j k g0 c2 h1, Int.mul_zero]; exact mE_rfl p _
          · exact mE_0.mpr (Int.dvd_mul_of_dvd_left (h3 j (by omega) (by omega))))
      rw [sm_one (k := k) _ h0 (by omega) (fun j _ _ g2 => if_neg g2), if_pos rfl] at h5
      exact h2 (mE_0.mp (mE_trans (mE_symm h5) (mE_0.mpr h4)))
    · exact e
  · intro e
    refine ⟨_, cD_e h h0 h1, ?_, fun j g0 g1 => ?_⟩
    · show ¬ p ∣ eW k k - F k k
      rw [hk k k h0 h1 h0 h1 e]
      unfold eW
      rw [if_pos rfl]
      intro hd
      have := Int.le_of_dvd (by decide) hd
      omega
    · show p ∣ eW k j - F k j
      rw [hu k j h0 g0 g1]
      unfold eW
      rw [if_neg (by omega)]
      exact ⟨0, by omega⟩
theorem cD_nf (h : cD p W V F L) (hp : 2 ≤ p) (v : Int → Int) : isNF p W V v (fun k => nfs F W v k % p) := by
  obtain ⟨hr, hu, hk, hn, h01, hV⟩ := id h
  refine ⟨vS_ext (cD_sub h) (cD_diff h v) (fun j _ _ => mE_sub (mE_rfl p _) (mE_symm (mE_emod p _))), fun j _ _ => ⟨Int.emod_nonneg _ (by omega), Int.emod_lt_of_pos _ (by omega)⟩, fun k h0 h1 ht => ?_⟩
  have e := (cD_top h h0 h1 hp).mp ht
  have : nfs F W v k = 0 := sm_zero _ (fun i i0 i1 => by rw [hk i k i0 (by omega) h0 h1 e, Int.mul_zero])
  show nfs F W v k % p = 0
  rw [this]
  exact Int.zero_emod p
theorem cD_F (h : cD p W V F L) (hp : 2 ≤ p) {w : Int} (h0 : 0 ≤ w) (h1 : w < W) : isNF p W V (eW w) (F w) := by
  obtain ⟨hr, hu, hk, hn, h01, hV⟩ := id h
  exact ⟨cD_e h h0 h1, fun j g0 g1 => hr w j h0 h1 g0 g1, fun k g0 g1 ht => hk w k h0 h1 g0 g1 ((cD_top h g0 g1 hp).mp ht)⟩
/-- nothing new -/
theorem cD_same (h : cD p W V F L) {r : Int → Int} (hr : V r) : cD p W (vAdd V r) F L := by
  have hs := cD_sub h
  have e : ∀ v, vAdd V r v ↔ V v := fun v => ⟨fun hv => vAdd_le hs (fun _ g => g) hr hv, fun hv => vAdd_old hs hv⟩
  obtain ⟨a, b, c, d, f, g⟩ := h
  exact ⟨a, b, c, d, f, fun v => (e v).trans (g v)⟩
/-- a row more: X is its plain form, l its greatest word, N what stands for l -/
theorem cD_ins (h : cD p W V F L) (hp : sPr p) {r X N : Int → Int} {l : Int} (hX : ∀ k, 0 ≤ k → k < W → X k = nfs F W r k % p) (h0 : 0 ≤ l) (h1 : l < W) (hl : ¬ X l = 0) (htop : ∀ k, l < k → k < W → X k = 0) (hN : ∀ k, 0 ≤ k → k < l → mE p (X l * N k) (-X k)) (F' : Int → Int → Int) (L' : Int → Int) (hF : ∀ w k, 0 ≤ w → w < W → 0 ≤ k → k < W → F' w k = if k < l then (F w k + F w l * N k) % p else if k = l then 0 else F w k) (hL : ∀ k, 0 ≤ k → k < W → L' k = if k = l then 1 else L k) : cD p W (vAdd V r) F' L' := by
  obtain ⟨hr, hu, hk, hn, h01, hV⟩ := id h
  have hp2 := hp.1
  have hXr : ∀ k, 0 ≤ k → k < W → 0 ≤ X k ∧ X k < p := fun k g0 g1 => by rw [hX k g0 g1]; exact sR_lt hp
  have hLl : L l = 0 := by
    rcases h01 l h0 h1 with e | e
    · exact e
    · exfalso
      apply hl
      rw [hX l h0 h1]
      unfold nfs
      rw [sm_zero _ (fun i i0 i1 => by rw [hk i l i0 (by omega) h0 h1 e, Int.mul_zero])]
      exact Int.zero_emod p
  have hXl : ¬ p ∣ X l := fun e => by
    have := mE_eq (hXr l h0 h1) ⟨Int.le_refl 0, by omega⟩ (mE_0.mpr e)
    exact hl this
  have hXk : ∀ k, 0 ≤ k → k < W → L k = 1 → X k = 0 := fun k g0 g1 e => by
    rw [hX k g0 g1]
    unfold nfs
    rw [sm_zero _ (fun i i0 i1 => by rw [hk i k i0 (by omega) g0 g1 e, Int.mul_zero])]
    exact Int.zero_emod p
  have hNk : ∀ k, 0 ≤ k → k < l → L k = 1 → p ∣ N k := fun k g0 g1 e => by
    have h2 := hN k g0 g1
    rw [hXk k g0 (by omega) e] at h2
    exact pr_mul hp (mE_0.mp h2) hXl
  refine ⟨fun w k g0 g1 g2 g3 => ?_, fun w k g0 g1 g2 => ?_, fun w k g0 g1 g2 g3 e => ?_, fun w g0 g1 e k g2 g3 => ?_, fun w g0 g1 => ?_, fun v => ?_⟩
  · rw [hF w k g0 g1 g2 g3]
    split
    · exact sR_lt hp
    · split
      · omega
      · exact hr w k g0 g1 g2 g3
  · rw [hF w k g0 (by omega) (by omega) g2]
    split
    · rw [hu w k g0 g1 g2, hu w l g0 (by omega) h1, Int.zero_mul]
      exact Int.zero_emod p
    · split
      · rfl
      · exact hu w k g0 g1 g2
  · rw [hF w k g0 g1 g2 g3]
    rw [hL k g2 g3] at e
    split
    · rename_i c
      rw [if_neg (by omega)] at e
      rw [hk w k g0 g1 g2 g3 e, Int.zero_add]
      exact Int.emod_eq_zero_of_dvd (Int.dvd_mul_of_dvd_right (hNk k g2 c e))
    · split
      · rfl
      · rename_i c2
        rw [if_neg c2] at e
        exact hk w k g0 g1 g2 g3 e
  · rw [hL w g0 g1] at e
    by_cases c : w = l
    · rw [if_pos c] at e
      exact absurd e (by decide)
    · rw [if_neg c] at e
      rw [hF w k g0 g1 g2 g3, hn w g0 g1 e k g2 g3, hn w g0 g1 e l h0 h1, if_neg (show ¬ l = w from fun q => c q.symm), Int.zero_mul, Int.add_zero]
      split
      · exact Int.emod_eq_of_lt (by split <;> omega) (by split <;> omega)
      · split
        · rw [if_neg (by omega)]
        · rfl
  · rw [hL w g0 g1]
    split
    · exact Or.inr rfl
    · exact h01 w g0 g1
  · -- V and the row more, by the new forms
    have key : ∀ (u : Int → Int) (k : Int), 0 ≤ k → k < W → mE p (sm (fun w => u w * F' w k) W.toNat) (if k < l then nfs F W u k + nfs F W u l * N k else if k = l then 0 else nfs F W u k) := by
      intro u k g0 g1
      by_cases c : k < l
      · rw [if_pos c]
        have e : nfs F W u k + nfs F W u l * N k = sm (fun w => u w * (F w k + F w l * N k)) W.toNat := by
          unfold nfs
          rw [Int.mul_comm, ← sm_mul, ← sm_add]
          exact sm_ext _ (fun j _ _ => by grind)
        rw [e]
        refine mE_sm _ (fun j i0 i1 => mE_mul (mE_rfl p _) ?_)
        rw [hF j k i0 (by omega) g0 g1, if_pos c]
        exact mE_emod p _
      · rw [if_neg c]
        by_cases c2 : k = l
        · rw [if_pos c2, sm_zero _ (fun j i0 i1 => by rw [hF j k i0 (by omega) g0 g1, if_neg c, if_pos c2, Int.mul_zero])]
          exact mE_rfl p 0
        · rw [if_neg c2]
          exact mE_sm _ (fun j i0 i1 => by rw [hF j k i0 (by omega) g0 g1, if_neg c, if_neg c2]; exact mE_rfl p _)
    have lin : ∀ (c : Int) (k : Int), nfs F W (fun j => v j - c * r j) k = nfs F W v k - c * nfs F W r k := by
      intro c k
      unfold nfs
      have : sm (fun w => (v w - c * r w) * F w k) W.toNat = sm (fun w => v w * F w k) W.toNat + (-c) * sm (fun w => r w * F w k) W.toNat := by
        rw [← sm_mul, ← sm_add]
        exact sm_ext _ (fun j _ _ => by grind)
      rw [this]
      grind
    have hXm : ∀ k, 0 ≤ k → k < W → mE p (nfs F W r k) (X k) := fun k g0 g1 => by rw [hX k g0 g1]; exact mE_symm (mE_emod p _)
    constructor
    · rintro ⟨c, hc⟩ k g0 g1
      have h2 : ∀ k, 0 ≤ k → k < W → mE p (nfs F W v k) (c * X k) := fun k g0 g1 => by
        have h3 : mE p (nfs F W (fun j => v j - c * r j) k) 0 := mE_0.mpr ((hV _).mp hc k g0 g1)
        rw [lin] at h3
        have h4 := mE_add h3 (mE_mul (mE_rfl p c) (hXm k g0 g1))
        refine mE_trans (mE_of ?_) (mE_trans h4 (mE_of ?_))
        · omega
        · omega
      refine mE_0.mp (mE_trans (key v k g0 g1) ?_)
      by_cases c1 : k < l
      · rw [if_pos c1]
        have h5 : mE p (nfs F W v k + nfs F W v l * N k) (c * X k + c * X l * N k) := mE_add (h2 k g0 g1) (mE_mul (h2 l h0 h1) (mE_rfl p _))
        have h6 : mE p (c * X k + c * X l * N k) (c * X k + c * (-X k)) := by
          rw [Int.mul_assoc]
          exact mE_add (mE_rfl p _) (mE_mul (mE_rfl p c) (hN k g0 c1))
        refine mE_trans h5 (mE_trans h6 (mE_of ?_))
        rw [Int.mul_neg]; omega
      · rw [if_neg c1]
        by_cases c2 : k = l
        · rw [if_pos c2]; exact mE_rfl p 0
        · rw [if_neg c2]
          refine mE_trans (h2 k g0 g1) (mE_of ?_)
          rw [htop k (by omega) g1, Int.mul_zero]
    · intro hz
      obtain ⟨i, hi⟩ := pr_iv hp hXl
      refine ⟨nfs F W v l * i, (hV _).mpr (fun k g0 g1 => ?_)⟩
      refine mE_0.mp ?_
      show mE p (nfs F W (fun j => v j - nfs F W v l * i * r j) k) 0
      rw [lin]
      have h2 : mE p (nfs F W v k - nfs F W v l * i * nfs F W r k) (nfs F W v k - nfs F W v l * i * X k) := mE_sub (mE_rfl p _) (mE_mul (mE_rfl p _) (hXm k g0 g1))
      refine mE_trans h2 ?_
      have h3 := mE_trans (mE_symm (key v k g0 g1)) (mE_0.mpr (hz k g0 g1))
      by_cases c1 : k < l
      · rw [if_pos c1] at h3
        -- X k = - X l * N k
        have h4 : mE p (nfs F W v l * i * X k) (nfs F W v l * i * -(X l * N k)) := mE_mul (mE_rfl p _) (by have := mE_neg (hN k g0 c1); rw [Int.neg_neg] at this; exact mE_symm this)
        have h5 : mE p (nfs F W v l * (i * X l) * N k) (nfs F W v l * 1 * N k) := mE_mul (mE_mul (mE_rfl p _) hi) (mE_rfl p _)
        have h6 := mE_sub (mE_rfl p (nfs F W v k)) h4
        refine mE_trans h6 (mE_trans (mE_of ?_) (mE_trans (mE_add (mE_rfl p (nfs F W v k)) h5) (mE_trans (mE_of ?_) h3)))
        · grind
        · rw [Int.mul_one]
      · rw [if_neg c1] at h3
        by_cases c2 : k = l
        · have h4 : mE p (nfs F W v l * (i * X l)) (nfs F W v l * 1) := mE_mul (mE_rfl p _) hi
          rw [c2]
          refine mE_trans (mE_sub (mE_rfl p (nfs F W v l)) (mE_trans (mE_of (by rw [Int.mul_assoc])) h4)) (mE_of ?_)
          rw [Int.mul_one]; omega
        · rw [if_neg c2] at h3
          rw [htop k (by omega) g1, Int.mul_zero, Int.sub_zero]
          exact h3
end CD
