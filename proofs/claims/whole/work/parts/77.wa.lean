/-! all lengths worked out; sums of sizes -/
theorem rch_D {R R' D : Int} {n p : Int} {fm fs ld sz rw_ : Int → Int} {LW : Int → (Int → Int) → Prop} (h : R' = (if (0 ≤ D ∧ D ≤ D) ∧ R < D then D else R)) (hO : sOk n D p) (g : cNg fm fs ld sz rw_ n D p LW R) : R' = D := by
  have h1 := g.1.2
  have h2 := hO.2.1.1
  by_cases c : R < D
  · rw [if_pos ⟨by omega, c⟩] at h; exact h
  · rw [if_neg (fun q => c q.2)] at h; omega
theorem cN_D {n D p R : Int} {fm fs ld sz rw_ : Int → Int} {LW : Int → (Int → Int) → Prop} (g : cNg fm fs ld sz rw_ n D p LW R) (h : R = D) : cNg fm fs ld sz rw_ n D p LW D := h ▸ g
theorem cNg_LD {fm fs ld sz rw_ L : Int → Int} {n D p : Int} {LW : Int → (Int → Int) → Prop} (hO : sOk n D p) (h : cNg fm fs ld sz rw_ n D p LW D) (hL : ldOk L n D p LW) : ∀ x, 0 ≤ x → x < sS n D (D + 1) → ld x = L x := cNg_L hO h hL
theorem al_z {A : Int} {X : Int → Int} {r : Int} (h : (r = 1 ∧ ∀ x, 0 ≤ x → x < A → X x = 0) ∨ (r = 0 ∧ ∃ x, 0 ≤ x ∧ x < A ∧ ¬ X x = 0)) (hr : r = 0) : ∃ x, 0 ≤ x ∧ x < A ∧ ¬ X x = 0 := by
  rcases h with h | h
  · omega
  · exact h.2
theorem al_o {A : Int} {X : Int → Int} {r : Int} (h : (r = 1 ∧ ∀ x, 0 ≤ x → x < A → X x = 0) ∨ (r = 0 ∧ ∃ x, 0 ≤ x ∧ x < A ∧ ¬ X x = 0)) (hr : ¬ r = 0) : ∀ x, 0 ≤ x → x < A → X x = 0 := by
  rcases h with h | h
  · exact h.2
  · exact absurd h.1 hr
theorem sers_c {f g s : Int → Int} {d : Int} (h : ∀ k, 0 ≤ k → k ≤ d → f k = g k) (hs : sers f s d) : sers g s d := ⟨hs.1, fun k a b => by
  rw [hs.2 k a b]
  congr 1
  exact sm_ext _ (fun i i0 i1 => by
    show f (i + 1) * s (k - (i + 1)) = g (i + 1) * s (k - (i + 1))
    rw [h (i + 1) (by omega) (by omega)])⟩
def sosP (L : Int → Int) (n D r : Int) : Prop := (r = -1 ∧ ∀ k, 0 ≤ k → k ≤ D → ¬ szL L n D k = 0) ∨ ((∃ k, 0 ≤ k ∧ k ≤ D ∧ szL L n D k = 0) ∧ r = sm (fun k => szL L n D k) (D + 1).toNat ∧ 0 ≤ r ∧ r ≤ 2048)
theorem sos_c {fm fs ld sz rw_ L : Int → Int} {n D p r : Int} {LW : Int → (Int → Int) → Prop} (hO : sOk n D p) (g : cNg fm fs ld sz rw_ n D p LW D) (hL : ldOk L n D p LW) (h : (r = -1 ∧ ∀ k, 0 ≤ k → k ≤ D → ¬ sz k = 0) ∨ ((∃ k, 0 ≤ k ∧ k ≤ D ∧ sz k = 0) ∧ r = sm (fun k => sz k) (D + 1).toNat ∧ 0 ≤ r ∧ r ≤ 2048)) : sosP L n D r := by
  have e := fun k (a : 0 ≤ k) (b : k ≤ D) => cNg_sz hO g hL a b
  rcases h with ⟨h1, h2⟩ | ⟨⟨k, a, b, c⟩, h2, h3⟩
  · exact .inl ⟨h1, fun k a b => by rw [← e k a b]; exact h2 k a b⟩
  · exact .inr ⟨⟨k, a, b, by rw [← e k a b]; exact c⟩, h2.trans (sm_ext _ (fun j j0 j1 => e j j0 (by omega))), h3⟩
theorem sos_b {L : Int → Int} {n D r : Int} (h : sosP L n D r) : -1 ≤ r ∧ r ≤ 2048 := by
  rcases h with ⟨h1, _⟩ | ⟨_, _, h3⟩ <;> omega
theorem sos_n {L : Int → Int} {n D r : Int} (h : sosP L n D r) : r = -1 → ∀ k, 0 ≤ k → k ≤ D → ¬ szL L n D k = 0 := fun hr => by
  rcases h with ⟨_, h2⟩ | ⟨_, _, h3⟩
  · exact h2
  · omega
theorem sos_p {L : Int → Int} {n D r : Int} (h : sosP L n D r) : ¬ r = -1 → (∃ k, 0 ≤ k ∧ k ≤ D ∧ szL L n D k = 0) ∧ r = sm (fun k => szL L n D k) (D + 1).toNat := fun hr => by
  rcases h with ⟨h1, _⟩ | ⟨h1, h2, _⟩
  · exact absurd h1 hr
  · exact ⟨h1, h2⟩
theorem sos_q {L : Int → Int} {n D r : Int} (h : sosP L n D r) : ¬ r = -1 → 0 ≤ r ∧ r ≤ 2048 := fun hr => by
  rcases h with ⟨h1, _⟩ | ⟨_, _, h3⟩
  · exact absurd h1 hr
  · exact h3
theorem m2k {a b : Int} (ha : 0 ≤ a ∧ a ≤ 2048) (hb : 0 ≤ b ∧ b < 97) : 0 ≤ a * b ∧ a * b ≤ 198656 := by
  refine ⟨Int.mul_nonneg ha.1 hb.1, ?_⟩
  calc a * b ≤ 2048 * b := Int.mul_le_mul_of_nonneg_right ha.2 hb.1
    _ ≤ 2048 * 97 := Int.mul_le_mul_of_nonneg_left (by omega) (by decide)
