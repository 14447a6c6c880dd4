/-! the rank by columns, column after column (class) -/
def rkI (p : Int) (IK KR : Int → Int) (A : Int → Int → Int) (m N R : Int) : Prop := kOk IK KR m ∧ R = sm IK m.toNat ∧ (∀ w, 0 ≤ w → w < N → ∃ f : Int → Int, ∀ j, 0 ≤ j → j < m → mE p (A j w) (sm (fun a => f a * kR IK KR a j) m.toNat)) ∧
  (∀ a, 0 ≤ a → a < m → ∃ t : Int → Int, ∀ j, 0 ≤ j → j < m → mE p (kR IK KR a j) (sm (fun w => A j w * t w) N.toNat))
theorem rkI_0 {p m : Int} {IK KR : Int → Int} (A : Int → Int → Int) (h : ∀ i, 0 ≤ i → i < m → IK i = 0) : rkI p IK KR A m 0 0 :=
  ⟨fun a h0 h1 g => by rw [h a h0 h1] at g; omega, (sm_zero _ (fun j a b => h j a (by omega))).symm, fun w a b => by omega, fun a h0 h1 => ⟨fun _ => 0, fun j _ _ => by
    unfold kR
    rw [h a h0 h1, if_neg (by decide)]; exact mE_rfl p _⟩⟩
theorem col_up {A : Int → Int → Int} {t : Int → Int} {j N v : Int} (hN : 0 ≤ N) : sm (fun w => A j w * up t N v w) (N + 1).toNat = sm (fun w => A j w * t w) N.toNat + A j N * v := by
  rw [sm_s _ hN, up_eq, sm_ext (g := fun w => A j w * t w) _ (fun w a b => by rw [up_ne (by omega)])]
theorem rkI_A {p m N R : Int} {IK KR : Int → Int} {A : Int → Int → Int} (hN : 0 ≤ N) (h : rkI p IK KR A m N R)
    (hA : ∃ f : Int → Int, ∀ j, 0 ≤ j → j < m → mE p (A j N) (sm (fun a => f a * kR IK KR a j) m.toNat)) : rkI p IK KR A m (N + 1) R := by
  refine ⟨h.1, h.2.1, fun w a b => ?_, fun a a0 a1 => ?_⟩
  · by_cases g : w = N
    · rw [g]; exact hA
    · exact h.2.2.1 w a (by omega)
  · obtain ⟨t, ht⟩ := h.2.2.2 a a0 a1
    exact ⟨up t N 0, fun j b0 b1 => by rw [col_up hN, Int.mul_zero, Int.add_zero]; exact ht j b0 b1⟩
theorem rkI_B {p m N R i c : Int} {IK KR KR' : Int → Int} {A : Int → Int → Int} (hp : sPr p) (hN : 0 ≤ N) (hm : m ≤ 81) (hi : 0 ≤ i ∧ i < m) (hc : 1 ≤ c ∧ c < p) (hI : IK i = 0) (h : rkI p IK KR A m N R)
    (h1 : ∀ x, (x < i * 81 ∨ i * 81 + m ≤ x) → KR' x = KR x) (h2 : KR' (i * 81 + i) = 1) (h3 : ∀ j, 0 ≤ j → j < i → KR' (i * 81 + j) = 0)
    (hA : ∃ f : Int → Int, ∀ j, 0 ≤ j → j < m → mE p (A j N) (c * KR' (i * 81 + j) + sm (fun a => f a * kR IK KR a j) m.toNat)) : rkI p (up IK i 1) KR' A m (N + 1) (R + 1) := by
  have e1 : ∀ a j, 0 ≤ j → j < m → ¬ a = i → kR (up IK i 1) KR' a j = kR IK KR a j := fun a j b0 b1 g => by
    unfold kR
    rw [up_ne g, h1 (a * 81 + j) (by omega)]
  have e2 : ∀ j, kR (up IK i 1) KR' i j = KR' (i * 81 + j) := fun j => by unfold kR; rw [up_eq, if_pos rfl]
  have e3 : ∀ j, kR IK KR i j = 0 := fun j => by unfold kR; rw [hI, if_neg (by decide)]
  have e4 : ∀ (f : Int → Int) (v j : Int), 0 ≤ j → j < m → sm (fun a => up f i v a * kR (up IK i 1) KR' a j) m.toNat = sm (fun a => f a * kR IK KR a j) m.toNat + v * KR' (i * 81 + j) := fun f v j b0 b1 => by
    rw [sm_ext (g := up (fun a => f a * kR IK KR a j) i (v * KR' (i * 81 + j))) _ (fun a _ _ => by
      by_cases g : a = i
      · rw [g, up_eq, up_eq, e2]
      · rw [up_ne g, up_ne g, e1 a j b0 b1 g]), sm_upd m.toNat hi.1 (by omega), e3, Int.mul_zero, Int.sub_zero]
  refine ⟨fun a a0 a1 g => ?_, ?_, fun w a b => ?_, fun a a0 a1 => ?_⟩
  · by_cases d : a = i
    · rw [d]; exact ⟨h2, h3⟩
    · rw [up_ne d] at g
      have h4 := h.1 a a0 a1 g
      exact ⟨by rw [h1 _ (by omega)]; exact h4.1, fun j b0 b1 => by rw [h1 _ (by omega)]; exact h4.2 j b0 b1⟩
  · rw [sm_upd m.toNat hi.1 (by omega), hI, ← h.2.1]; omega
  · by_cases g : w = N
    · obtain ⟨f, hf⟩ := hA
      exact ⟨up f i c, fun j b0 b1 => by rw [g, e4 f c j b0 b1, Int.add_comm]; exact hf j b0 b1⟩
    · obtain ⟨f, hf⟩ := h.2.2.1 w a (by omega)
      exact ⟨up f i 0, fun j b0 b1 => by rw [e4 f 0 j b0 b1, Int.zero_mul, Int.add_zero]; exact hf j b0 b1⟩
  · by_cases d : a = i
    · obtain ⟨f, hf⟩ := hA
      obtain ⟨s, hs⟩ := pr_iv hp (a := c) (fun g => by have := Int.le_of_dvd (by omega) g; omega)
      have ⟨T, hT⟩ : ∃ T : Int → Int → Int, ∀ a, 0 ≤ a → a < m → ∀ j, 0 ≤ j → j < m → mE p (kR IK KR a j) (sm (fun w => A j w * T a w) N.toNat) := by
        have h5 : ∀ a : Int, ∃ t : Int → Int, 0 ≤ a → a < m → ∀ j, 0 ≤ j → j < m → mE p (kR IK KR a j) (sm (fun w => A j w * t w) N.toNat) := fun a => by
          by_cases q : 0 ≤ a ∧ a < m
          · obtain ⟨t, ht⟩ := h.2.2.2 a q.1 q.2
            exact ⟨t, fun _ _ => ht⟩
          · exact ⟨fun _ => 0, fun q1 q2 => absurd ⟨q1, q2⟩ q⟩
        exact Classical.axiomOfChoice h5
      refine ⟨up (fun w => -(s * sm (fun a => f a * T a w) m.toNat)) N s, fun j b0 b1 => ?_⟩
      rw [col_up hN, d, e2]
      have h6 : mE p (sm (fun a => f a * kR IK KR a j) m.toNat) (sm (fun a => sm (fun w => f a * (A j w * T a w)) N.toNat) m.toNat) := mE_sm _ (fun a g0 g1 => by
        show mE p (f a * kR IK KR a j) (sm (fun w => f a * (A j w * T a w)) N.toNat)
        rw [sm_mul]
        exact mE_mul (mE_rfl p _) (hT a g0 (by omega) j b0 b1))
      rw [sm_swap] at h6
      have e5 : sm (fun w => A j w * -(s * sm (fun a => f a * T a w) m.toNat)) N.toNat = -s * sm (fun w => sm (fun a => f a * (A j w * T a w)) m.toNat) N.toNat := by
        rw [← sm_mul]
        refine sm_ext _ (fun w _ _ => ?_)
        show A j w * -(s * sm (fun a => f a * T a w) m.toNat) = -s * sm (fun a => f a * (A j w * T a w)) m.toNat
        have e6 : sm (fun a => f a * (A j w * T a w)) m.toNat = A j w * sm (fun a => f a * T a w) m.toNat := by
          rw [← sm_mul]
          exact sm_ext _ (fun a _ _ => by grind)
        rw [e6]; grind
      rw [e5]
      -- G = s * c * G = s * (column - the others)
      have h7 := mE_mul (mE_rfl p s) (hf j b0 b1)
      have h8 := mE_mul hs (mE_rfl p (KR' (i * 81 + j)))
      have h9 := mE_mul (mE_rfl p s) h6
      have g1 := mE_symm (mE_trans h8 (mE_of (Int.one_mul _)))
      have g2 := mE_sub (mE_symm h7) h9
      refine mE_trans g1 (mE_trans (mE_of ?_) (mE_trans g2 (mE_of ?_)))
      · rw [Int.mul_add, ← Int.mul_assoc]; omega
      · rw [Int.neg_mul, Int.mul_comm (A j N) s]; omega
    · obtain ⟨t, ht⟩ := h.2.2.2 a a0 a1
      exact ⟨up t N 0, fun j b0 b1 => by rw [col_up hN, Int.mul_zero, Int.add_zero, e1 a j b0 b1 d]; exact ht j b0 b1⟩
