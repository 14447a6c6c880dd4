/-! from what the class keeps to independent columns -/
theorem rkI_ind {p m N R : Int} {IK KR : Int → Int} {A : Int → Int → Int} (hp : sPr p) (hm : 0 ≤ m) (hf : R01 IK) (h : rkI p IK KR A m N R) : ind p m.toNat R.toNat (fun k j => kR IK KR (nth IK k m.toNat) j) := by
  have hb : ∀ x, 0 ≤ IK x ∧ IK x ≤ 1 := fun x => by have := hf x; omega
  have h2 := rkI_b hf h
  have hs : ∀ k : Int, 0 ≤ k → k < R.toNat → (0 ≤ nth IK k m.toNat ∧ nth IK k m.toNat < m.toNat) ∧ IK (nth IK k m.toNat) = 1 ∧ sm IK (nth IK k m.toNat).toNat = k := fun k a b => nth_some hb a m.toNat (by rw [← h.2.1]; omega)
  refine ind_of hp (v := fun k => nth IK k m.toNat) (fun k a b => ?_) (fun a b a0 a1 b0 b1 g => ?_)
  · have h3 := hs k a b
    have h4 := h.1 _ h3.1.1 (by omega) h3.2.1
    refine ⟨h3.1.1, h3.1.2, fun q => ?_, fun j j0 j1 => ?_⟩
    · have q : p ∣ kR IK KR (nth IK k m.toNat) (nth IK k m.toNat) := q
      unfold kR at q
      rw [if_pos h3.2.1, h4.1] at q
      have := Int.le_of_dvd (by decide) q
      have := hp.1
      omega
    · show mE p (kR IK KR (nth IK k m.toNat) j) 0
      unfold kR
      rw [if_pos h3.2.1, h4.2 j j0 j1]
      exact mE_rfl p _
  · have g : nth IK a m.toNat = nth IK b m.toNat := g
    have h3 := (hs a a0 a1).2.2
    have h4 := (hs b b0 b1).2.2
    rw [g] at h3
    omega
theorem rkI_sp {p m N R : Int} {IK KR : Int → Int} {A : Int → Int → Int} (hf : R01 IK) (h : rkI p IK KR A m N R) : ∀ w, 0 ≤ w → w < N → ∃ f : Int → Int, ∀ j, 0 ≤ j → j < m → mE p (A j w) (sm (fun k => f k * kR IK KR (nth IK k m.toNat) j) R.toNat) := by
  intro w a b
  obtain ⟨f, hF⟩ := h.2.2.1 w a b
  refine ⟨fun k => f (nth IK k m.toNat), fun j j0 j1 => ?_⟩
  have h3 := hF j j0 j1
  have e : sm (fun a => f a * kR IK KR a j) m.toNat = sm (fun a => if IK a = 1 then f a * kR IK KR a j else 0) m.toNat := sm_ext _ (fun a _ _ => by
    by_cases g : IK a = 1
    · rw [if_pos g]
    · rw [if_neg g]; unfold kR; rw [if_neg g, Int.mul_zero])
  rw [e, sm_pick (g := fun a => f a * kR IK KR a j) hf, ← h.2.1] at h3
  exact h3
