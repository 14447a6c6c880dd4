/-! elimination in rows (model) -/
theorem ix_inj {w i j i' j' : Int} (hj : 0 ≤ j ∧ j < w) (hj' : 0 ≤ j' ∧ j' < w) (h : w * i + j = w * i' + j') : i = i' ∧ j = j' := by
  rw [Int.mul_comm w i, Int.mul_comm w i'] at h
  have h1 := dv_q (y := i) hj.1 hj.2
  have h2 := dv_q (y := i') hj'.1 hj'.2
  rw [h] at h1
  exact ⟨h1.1.symm.trans h2.1, h1.2.symm.trans h2.2⟩
theorem up_ix {X : Int → Int} {w i j i' j' v : Int} (hj : 0 ≤ j ∧ j < w) (hj' : 0 ≤ j' ∧ j' < w) : up X (w * i + j) v (w * i' + j') = if i' = i ∧ j' = j then v else X (w * i' + j') := by
  by_cases h : i' = i ∧ j' = j
  · rw [if_pos h, h.1, h.2, up_eq]
  · rw [if_neg h, up_ne (fun g => h (ix_inj hj' hj g))]
theorem ix_b {w m i j B : Int} (hi : 0 ≤ i ∧ i < m) (hj : 0 ≤ j ∧ j < w) (hB : w * m ≤ B) : 0 ≤ w * i ∧ 0 ≤ w * i + j ∧ w * i + j < B := by
  have h1 : 0 ≤ w * i := Int.mul_nonneg (by omega) hi.1
  have h2 : w * (i + 1) ≤ w * m := Int.mul_le_mul_of_nonneg_left (by omega) (by omega)
  rw [Int.mul_add, Int.mul_one] at h2
  omega
def spE (p w m : Int) (A M : Int → Int → Int) : Prop := ∀ V : (Int → Int) → Prop, vSub p w V → ((∀ i, 0 ≤ i → i < m → V (A i)) ↔ ∀ i, 0 ≤ i → i < m → V (M i))
def elI (p : Int) (A M : Int → Int → Int) (m w nn c : Int) : Prop := spE p w m A M ∧ (∀ i j, 0 ≤ i → i < m → 0 ≤ j → j < w → 0 ≤ M i j ∧ M i j < p) ∧ (∃ v : Int → Int, (∀ k, 0 ≤ k → k < nn → 0 ≤ v k ∧ v k < c ∧ ¬ M k (v k) = 0 ∧ ∀ j, 0 ≤ j → j < v k → M k j = 0) ∧ ∀ a b, 0 ≤ a → a < b → b < nn → v a < v b) ∧ ∀ i j, nn ≤ i → i < m → 0 ≤ j → j < c → M i j = 0
theorem spE_rfl (p w m : Int) (A : Int → Int → Int) : spE p w m A A := fun _ _ => Iff.rfl
theorem el_0 {p m w : Int} {A : Int → Int → Int} (h : ∀ i j, 0 ≤ i → i < m → 0 ≤ j → j < w → 0 ≤ A i j ∧ A i j < p) : elI p A A m w 0 0 :=
  ⟨spE_rfl p w m A, h, ⟨fun _ => 0, fun k a b => by omega, fun a b h0 h1 h2 => by omega⟩, fun i j _ _ a b => by omega⟩
theorem el_no {p m w nn c : Int} {A M : Int → Int → Int} (h : elI p A M m w nn c) (hc : 0 ≤ c) (hz : ∀ i, nn ≤ i → i < m → M i c = 0) : elI p A M m w nn (c + 1) := by
  obtain ⟨h1, h2, ⟨v, h3, h4⟩, h5⟩ := h
  refine ⟨h1, h2, ⟨v, fun k a b => ?_, h4⟩, fun i j a b a0 a1 => ?_⟩
  · have := h3 k a b
    exact ⟨this.1, by omega, this.2.2⟩
  · by_cases g : j = c
    · rw [g]; exact hz i a b
    · exact h5 i j a b a0 (by omega)
/-- the rows behind the new one, as far as they are lessened -/
def elR (p : Int) (S X : Int → Int → Int) (m w nn c r : Int) : Prop := ∀ i, 0 ≤ i → i < m → (∀ j, 0 ≤ j → j < w → 0 ≤ X i j ∧ X i j < p) ∧ (nn < i ∧ i < r → (∃ F, ∀ j, 0 ≤ j → j < w → mE p (X i j) (S i j - F * S nn j)) ∧ (∀ j, 0 ≤ j → j < c → X i j = S i j) ∧ X i c = 0) ∧ (¬ (nn < i ∧ i < r) → ∀ j, 0 ≤ j → j < w → X i j = S i j)
theorem elR_0 {p m w nn c r : Int} {S X : Int → Int → Int} (h : ∀ i j, 0 ≤ i → i < m → 0 ≤ j → j < w → 0 ≤ S i j ∧ S i j < p) (hX : ∀ i j, 0 ≤ i → i < m → 0 ≤ j → j < w → X i j = S i j) (hr : r = nn + 1) : elR p S X m w nn c r := fun i a b =>
  ⟨fun j a0 a1 => by rw [hX i j a b a0 a1]; exact h i j a b a0 a1, fun g => by omega, fun _ j a0 a1 => hX i j a b a0 a1⟩
theorem elR_s {p m w nn c r F : Int} {S X Y : Int → Int → Int} (h : elR p S X m w nn c r) (hr : nn < r ∧ r < m) (hn : 0 ≤ nn) (hc : 0 ≤ c ∧ c < w)
    (h1 : ∀ i, 0 ≤ i → i < m → ¬ i = r → ∀ j, 0 ≤ j → j < w → Y i j = X i j) (hb : ∀ j, 0 ≤ j → j < w → 0 ≤ Y r j ∧ Y r j < p)
    (h2 : ∀ j, 0 ≤ j → j < w → mE p (Y r j) (S r j - F * S nn j)) (h3 : ∀ j, 0 ≤ j → j < c → Y r j = S r j) (h4 : Y r c = 0) : elR p S Y m w nn c (r + 1) := fun i a b => by
  by_cases g : i = r
  · subst g
    exact ⟨hb, fun _ => ⟨⟨F, h2⟩, h3, h4⟩, fun g => absurd ⟨hr.1, by omega⟩ g⟩
  · obtain ⟨g1, g2, g3⟩ := h i a b
    have e := h1 i a b g
    refine ⟨fun j a0 a1 => by rw [e j a0 a1]; exact g1 j a0 a1, fun q => ?_, fun q j a0 a1 => by rw [e j a0 a1]; exact g3 (by omega) j a0 a1⟩
    obtain ⟨⟨F', k1⟩, k2, k3⟩ := g2 (by omega)
    exact ⟨⟨F', fun j a0 a1 => by rw [e j a0 a1]; exact k1 j a0 a1⟩, fun j a0 a1 => by rw [e j a0 (by omega)]; exact k2 j a0 a1, by rw [e c hc.1 hc.2]; exact k3⟩
theorem el_yes {p m w nn c f : Int} {A M S X : Int → Int → Int} (h : elI p A M m w nn c) (hc : 0 ≤ c ∧ c < w) (hn : 0 ≤ nn) (hf : nn ≤ f ∧ f < m) (hM : ¬ M f c = 0)
    (hS : ∀ i j, 0 ≤ i → i < m → 0 ≤ j → j < w → S i j = M (swp nn f i) j) (hX : elR p S X m w nn c m) : elI p A X m w (nn + 1) (c + 1) := by
  obtain ⟨h1, h2, ⟨v, h3, h4⟩, h5⟩ := h
  have sw1 : swp nn f nn = f := if_pos rfl
  have swlt : ∀ k, k < nn → swp nn f k = k := fun k hk => by unfold swp; rw [if_neg (by omega), if_neg (by omega)]
  have swge : ∀ k, nn ≤ k → k < m → nn ≤ swp nn f k ∧ swp nn f k < m := fun k hk hm => by
    unfold swp
    split
    · exact hf
    · split
      · omega
      · omega
  have swb : ∀ k, 0 ≤ k → k < m → 0 ≤ swp nn f k ∧ swp nn f k < m := fun k h0 hm => by
    by_cases g : k < nn
    · rw [swlt k g]; omega
    · have := swge k (by omega) hm; omega
  have ex : ∀ k, 0 ≤ k → k ≤ nn → ∀ j, 0 ≤ j → j < w → X k j = S k j := fun k a b j a0 a1 => (hX k a (by omega)).2.2 (by omega) j a0 a1
  refine ⟨fun V hV => (h1 V hV).trans ⟨fun g => ?_, fun g => ?_⟩, fun i j a b => (hX i a b).1 j, ⟨fun k => if k = nn then c else v k, fun k a b => ?_, fun a b a0 a1 a2 => ?_⟩, fun i j a b a0 a1 => ?_⟩
  · -- from M to X
    intro i a b
    have gS : ∀ i, 0 ≤ i → i < m → V (S i) := fun i a b => vS_ext hV (g _ (swb i a b).1 (swb i a b).2) (fun j a0 a1 => mE_of (hS i j a b a0 a1).symm)
    by_cases q : nn < i
    · obtain ⟨⟨F, k1⟩, -, -⟩ := (hX i a b).2.1 ⟨q, b⟩
      refine vS_ext hV (vS_add hV (gS i a b) (gS nn hn (by omega)) (-F)) (fun j a0 a1 => mE_symm (mE_trans (k1 j a0 a1) (mE_of ?_)))
      rw [Int.neg_mul]; omega
    · exact vS_ext hV (gS i a b) (fun j a0 a1 => mE_of (ex i a (by omega) j a0 a1).symm)
  · intro i a b
    have gnn : V (S nn) := vS_ext hV (g nn hn (by omega)) (fun j a0 a1 => mE_of (ex nn hn (Int.le_refl _) j a0 a1))
    have gS : ∀ i, 0 ≤ i → i < m → V (S i) := fun i a b => by
      by_cases q : nn < i
      · obtain ⟨⟨F, k1⟩, -, -⟩ := (hX i a b).2.1 ⟨q, b⟩
        refine vS_ext hV (vS_add hV (g i a b) gnn F) (fun j a0 a1 => ?_)
        have := mE_add (k1 j a0 a1) (mE_rfl p (F * S nn j))
        rw [Int.sub_add_cancel] at this
        exact this
      · exact vS_ext hV (g i a b) (fun j a0 a1 => mE_of (ex i a (by omega) j a0 a1))
    have e := swb i a b
    refine vS_ext hV (gS (swp nn f i) e.1 e.2) (fun j a0 a1 => mE_of ?_)
    rw [hS _ j e.1 e.2 a0 a1, swp_swp]
  · show 0 ≤ (if k = nn then c else v k) ∧ (if k = nn then c else v k) < c + 1 ∧ ¬ X k (if k = nn then c else v k) = 0 ∧ ∀ j, 0 ≤ j → j < (if k = nn then c else v k) → X k j = 0
    by_cases g : k = nn
    · subst g
      rw [if_pos rfl]
      refine ⟨hc.1, by omega, ?_, fun j a0 a1 => ?_⟩
      · rw [ex k a (Int.le_refl _) c hc.1 hc.2, hS k c a (by omega) hc.1 hc.2, sw1]; exact hM
      · rw [ex k a (Int.le_refl _) j a0 (by omega), hS k j a (by omega) a0 (by omega), sw1]
        exact h5 f j hf.1 hf.2 a0 a1
    · rw [if_neg g]
      have q := h3 k a (by omega)
      refine ⟨q.1, by omega, ?_, fun j a0 a1 => ?_⟩
      · rw [ex k a (by omega) _ q.1 (by omega), hS k _ a (by omega) q.1 (by omega), swlt k (by omega)]; exact q.2.2.1
      · rw [ex k a (by omega) j a0 (by omega), hS k j a (by omega) a0 (by omega), swlt k (by omega)]
        exact q.2.2.2 j a0 a1
  · show (if a = nn then c else v a) < (if b = nn then c else v b)
    rw [if_neg (show ¬ a = nn by omega)]
    by_cases g : b = nn
    · rw [if_pos g]; have := h3 a a0 (by omega); omega
    · rw [if_neg g]; exact h4 a b a0 a1 (by omega)
  · obtain ⟨-, k2, k3⟩ := (hX i (by omega) b).2.1 ⟨by omega, b⟩
    by_cases g : j = c
    · rw [g]; exact k3
    · rw [k2 j a0 (by omega), hS i j (by omega) b a0 (by omega)]
      have := swge i (by omega) b
      exact h5 _ j this.1 this.2 a0 (by omega)
/-- the rank of the rows of A -/
def rkM (p : Int) (A : Int → Int → Int) (m w r : Int) : Prop := (0 ≤ r ∧ r ≤ m) ∧ ∃ E : Int → Int → Int, ind p w.toNat r.toNat E ∧ (∀ k, 0 ≤ k → k < r → ∃ q : Int → Int, ∀ j, 0 ≤ j → j < w → mE p (E k j) (sm (fun i => A i j * q i) m.toNat)) ∧ ∀ i, 0 ≤ i → i < m → ∃ q : Int → Int, ∀ j, 0 ≤ j → j < w → mE p (A i j) (sm (fun k => q k * E k j) r.toNat)
theorem sp_sub (p w : Int) (A : Int → Int → Int) (m : Nat) : vSub p w (fun v => ∃ q : Int → Int, ∀ j, 0 ≤ j → j < w → mE p (v j) (sm (fun i => A i j * q i) m)) := by
  refine ⟨⟨fun _ => 0, fun j _ _ => mE_of (by rw [sm_zero m (fun i _ _ => Int.mul_zero _)])⟩, ?_, ?_⟩
  · rintro a b c ⟨q, hq⟩ ⟨t, ht⟩
    refine ⟨fun i => q i + c * t i, fun j a0 a1 => ?_⟩
    have h := mE_add (hq j a0 a1) (mE_mul (mE_rfl p c) (ht j a0 a1))
    refine mE_trans h (mE_of ?_)
    rw [← sm_mul, ← sm_add]
    exact sm_ext m (fun i _ _ => by grind)
  · rintro a b hab ⟨q, hq⟩
    exact ⟨q, fun j a0 a1 => mE_trans (mE_symm (mE_iff.mpr (hab j a0 a1))) (hq j a0 a1)⟩
theorem sp_unit {p w : Int} {A : Int → Int → Int} {m : Nat} {i : Int} (h0 : 0 ≤ i) (h1 : i < m) : ∃ q : Int → Int, ∀ j, 0 ≤ j → j < w → mE p (A i j) (sm (fun i => A i j * q i) m) :=
  ⟨fun k => if k = i then 1 else 0, fun j _ _ => mE_of (by
    rw [sm_one m h0 h1 (fun k _ _ g => by show A k j * (if k = i then 1 else 0) = 0; rw [if_neg g, Int.mul_zero])]
    show A i j = A i j * (if i = i then 1 else 0)
    rw [if_pos rfl, Int.mul_one])⟩
theorem el_fin {p m w nn c : Int} {A M : Int → Int → Int} (hp : sPr p) (h : elI p A M m w nn c) (hn : 0 ≤ nn ∧ nn ≤ m) (hc : c = w ∨ nn = m ∧ c ≤ w) : rkM p A m w nn := by
  obtain ⟨h1, h2, ⟨v, h3, h4⟩, h5⟩ := h
  refine ⟨hn, M, ind_of hp (v := v) (fun k a b => ?_) (fun a b a0 a1 b0 b1 g => ?_), fun k a b => ?_, fun i a b => ?_⟩
  · have q := h3 k a (by omega)
    refine ⟨q.1, by omega, fun g => ?_, fun j a0 a1 => mE_of (q.2.2.2 j a0 a1)⟩
    have q2 := h2 k (v k) a (by omega) q.1 (by omega)
    have := Int.le_of_dvd (by omega) g
    omega
  · rcases Int.lt_trichotomy a b with g1 | g1 | g1
    · have := h4 a b a0 g1 (by omega); omega
    · exact g1
    · have := h4 b a b0 g1 (by omega); omega
  · have q := (h1 _ (sp_sub p w A m.toNat)).mp (fun i a b => sp_unit a (by omega)) k a (by omega)
    exact q
  · have q := (h1 _ (sp_sub p w M nn.toNat)).mpr (fun i a b => by
      by_cases g : i < nn
      · exact sp_unit a (by omega)
      · exact ⟨fun _ => 0, fun j a0 a1 => mE_of (by
          rw [sm_zero _ (fun k _ _ => Int.mul_zero _)]
          exact h5 i j (by omega) b a0 (by omega))⟩) i a b
    obtain ⟨q, hq⟩ := q
    exact ⟨q, fun j a0 a1 => mE_trans (hq j a0 a1) (mE_of (sm_ext _ (fun k _ _ => Int.mul_comm _ _)))⟩
theorem rkM_c {p m w r : Int} {A A' : Int → Int → Int} (h : rkM p A m w r) (hA : ∀ i j, 0 ≤ i → i < m → 0 ≤ j → j < w → mE p (A' i j) (A i j)) : rkM p A' m w r := by
  obtain ⟨h0, E, h1, h2, h3⟩ := h
  refine ⟨h0, E, h1, fun k a b => ?_, fun i a b => ?_⟩
  · obtain ⟨q, hq⟩ := h2 k a b
    exact ⟨q, fun j a0 a1 => mE_trans (hq j a0 a1) (mE_sm _ (fun i b0 b1 => mE_mul (mE_symm (hA i j b0 (by omega) a0 a1)) (mE_rfl p _)))⟩
  · obtain ⟨q, hq⟩ := h3 i a b
    exact ⟨q, fun j a0 a1 => mE_trans (hA i j a b a0 a1) (hq j a0 a1)⟩
theorem rk_same {p m w r N R : Int} {IK KR : Int → Int} {A : Int → Int → Int} (hp : sPr p) (hm : 0 ≤ m) (hf : R01 IK) (h1 : rkM p A m w r) (h2 : rkI p IK KR A m N R) (hN : N ≤ w) (hNw : N = w ∨ m ≤ R) : r = R := by
  obtain ⟨h0, E, g1, g2, g3⟩ := h1
  have hR := rkI_b hf h2
  have hw : ∀ {k : Int}, 0 ≤ k → k < m.toNat → 0 ≤ k ∧ k < m := fun a b => ⟨a, by omega⟩
  obtain ⟨Q, hQ⟩ : ∃ Q : Int → Int → Int, ∀ k, 0 ≤ k → k < r → ∀ j, 0 ≤ j → j < w → mE p (E k j) (sm (fun i => A i j * Q k i) m.toNat) := by
    have h5 : ∀ k : Int, ∃ q : Int → Int, 0 ≤ k → k < r → ∀ j, 0 ≤ j → j < w → mE p (E k j) (sm (fun i => A i j * q i) m.toNat) := fun k => by
      by_cases q : 0 ≤ k ∧ k < r
      · obtain ⟨t, ht⟩ := g2 k q.1 q.2
        exact ⟨t, fun _ _ => ht⟩
      · exact ⟨fun _ => 0, fun q1 q2 => absurd ⟨q1, q2⟩ q⟩
    exact Classical.axiomOfChoice h5
  obtain ⟨P, hP⟩ : ∃ P : Int → Int → Int, ∀ i, 0 ≤ i → i < m → ∀ j, 0 ≤ j → j < w → mE p (A i j) (sm (fun k => P i k * E k j) r.toNat) := by
    have h5 : ∀ i : Int, ∃ q : Int → Int, 0 ≤ i → i < m → ∀ j, 0 ≤ j → j < w → mE p (A i j) (sm (fun k => q k * E k j) r.toNat) := fun i => by
      by_cases q : 0 ≤ i ∧ i < m
      · obtain ⟨t, ht⟩ := g3 i q.1 q.2
        exact ⟨t, fun _ _ => ht⟩
      · exact ⟨fun _ => 0, fun q1 q2 => absurd ⟨q1, q2⟩ q⟩
    exact Classical.axiomOfChoice h5
  have hF := rkI_ind hp hm hf h2
  have hb : ∀ x, 0 ≤ IK x ∧ IK x ≤ 1 := fun x => by have := hf x; omega
  obtain ⟨T, hT⟩ : ∃ T : Int → Int → Int, ∀ l, 0 ≤ l → l < R → ∀ i, 0 ≤ i → i < m → mE p (kR IK KR (nth IK l m.toNat) i) (sm (fun j => A i j * T l j) w.toNat) := by
    have h5 : ∀ l : Int, ∃ t : Int → Int, 0 ≤ l → l < R → ∀ i, 0 ≤ i → i < m → mE p (kR IK KR (nth IK l m.toNat) i) (sm (fun j => A i j * t j) w.toNat) := fun l => by
      by_cases q : 0 ≤ l ∧ l < R
      · have h6 := nth_some hb q.1 m.toNat (by rw [← h2.2.1]; omega)
        obtain ⟨t, ht⟩ := h2.2.2.2 (nth IK l m.toNat) h6.1.1 (by omega)
        refine ⟨fun j => if j < N then t j else 0, fun _ _ i a b => mE_trans (ht i a b) (mE_of ?_)⟩
        by_cases hN0 : N ≤ 0
        · rw [show N.toNat = 0 by omega, sm_zero w.toNat (fun j c0 c1 => by dsimp only; rw [if_neg (by omega), Int.mul_zero])]; rfl
        · rw [show w.toNat = N.toNat + (w.toNat - N.toNat) by omega, sm_cat, sm_zero (w.toNat - N.toNat) (fun j c0 c1 => by dsimp only; rw [if_neg (by omega), Int.mul_zero]), Int.add_zero]
          exact sm_ext _ (fun j c0 c1 => by dsimp only; rw [if_pos (by omega)])
      · exact ⟨fun _ => 0, fun q1 q2 => absurd ⟨q1, q2⟩ q⟩
    exact Classical.axiomOfChoice h5
  obtain ⟨G, hG⟩ : ∃ G : Int → Int → Int, ∀ j, 0 ≤ j → j < N → ∀ i, 0 ≤ i → i < m → mE p (A i j) (sm (fun k => G j k * kR IK KR (nth IK k m.toNat) i) R.toNat) := by
    have h5 : ∀ j : Int, ∃ f : Int → Int, 0 ≤ j → j < N → ∀ i, 0 ≤ i → i < m → mE p (A i j) (sm (fun k => f k * kR IK KR (nth IK k m.toNat) i) R.toNat) := fun j => by
      by_cases q : 0 ≤ j ∧ j < N
      · obtain ⟨t, ht⟩ := rkI_sp hf h2 j q.1 q.2
        exact ⟨t, fun _ _ => ht⟩
      · exact ⟨fun _ => 0, fun q1 q2 => absurd ⟨q1, q2⟩ q⟩
    exact Classical.axiomOfChoice h5
  have key : r.toNat = R.toNat := by
    refine rank_eq hp (m := m.toNat) (w := w.toNat) (A := A) (R := G) g1 hF (Q := Q) (P := P) (T := T) (fun k j a b a0 a1 => hQ k a (by omega) j a0 (by omega)) (fun i j a b a0 a1 => hP i a (by omega) j a0 (by omega)) (fun l i a b a0 a1 => hT l a (by omega) i a0 (by omega)) ?_
    rcases hNw with e | e
    · exact .inr (fun i j a b a0 a1 => hG j a0 (by omega) i a (by omega))
    · exact .inl (by omega)
  omega
