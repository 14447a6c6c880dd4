/-! the centre: the columns of all letters, one letter behind the other -/
def ceA (fm : Int → Int) (n D d : Int) (U : Int → Int) (j c : Int) : Int := fm (sQ n D (d + 1) + (c / sW n D (d + 1) * sW n D d + U j) * sW n D (d + 1) + c % sW n D (d + 1)) - fm (sQ n D (d + 1) + (U j * sW n D 1 + c / sW n D (d + 1)) * sW n D (d + 1) + c % sW n D (d + 1))
theorem ceA_at {fm U : Int → Int} {n D d j x w u v : Int} (hw : 0 ≤ w ∧ w < sW n D (d + 1)) (hu : u = U j) (hv : v = fm (sQ n D (d + 1) + (x * sW n D d + u) * sW n D (d + 1) + w) - fm (sQ n D (d + 1) + (u * sW n D 1 + x) * sW n D (d + 1) + w)) : v = ceA fm n D d U j (x * sW n D (d + 1) + w) := by
  have h := dv_q (y := x) hw.1 hw.2
  unfold ceA
  rw [h.1, h.2, hv, hu]
def rkC (p : Int) (IK KR : Int → Int) (A : Int → Int → Int) (m B R : Int) : Prop := ∃ N, (0 ≤ N ∧ N ≤ B) ∧ (N = B ∨ m ≤ R) ∧ rkI p IK KR A m N R
theorem rkC_0 {p m B R : Int} {IK KR : Int → Int} (A : Int → Int → Int) (h : ∀ i, 0 ≤ i → i < m → IK i = 0) (hB : B = 0) (hR : R = 0) : rkC p IK KR A m B R := by
  subst hB; subst hR
  exact ⟨0, ⟨Int.le_refl 0, Int.le_refl 0⟩, .inl rfl, rkI_0 A h⟩
theorem rkC_b {p m B R : Int} {IK KR : Int → Int} {A : Int → Int → Int} (h1 : R01 IK) (h : rkC p IK KR A m B R) : 0 ≤ R ∧ (0 ≤ m → R ≤ m) := by
  obtain ⟨N, -, -, h2⟩ := h
  exact rkI_b h1 h2
theorem rkC_eq {p m B B' R : Int} {IK KR : Int → Int} {A : Int → Int → Int} (h : rkC p IK KR A m B R) (e : B' = B) : rkC p IK KR A m B' R := e ▸ h
theorem rkC_skip {p m B B' R : Int} {IK KR : Int → Int} {A : Int → Int → Int} (h : rkC p IK KR A m B R) (h1 : m ≤ R) (h2 : B ≤ B') : rkC p IK KR A m B' R := by
  obtain ⟨N, h3, h4, h5⟩ := h
  exact ⟨N, ⟨h3.1, by omega⟩, .inr h1, h5⟩
theorem rkC_A {p m B R : Int} {IK KR : Int → Int} {A : Int → Int → Int} (h : rkC p IK KR A m B R) (hR : R < m)
    (hA : ∃ f : Int → Int, ∀ j, 0 ≤ j → j < m → mE p (A j B) (sm (fun a => f a * kR IK KR a j) m.toNat)) : rkC p IK KR A m (B + 1) R := by
  obtain ⟨N, h3, h4, h5⟩ := h
  have e : N = B := by omega
  subst e
  exact ⟨N + 1, ⟨by omega, Int.le_refl _⟩, .inl rfl, rkI_A h3.1 h5 hA⟩
theorem rkC_B {p m B R i c : Int} {IK KR KR' : Int → Int} {A : Int → Int → Int} (hp : sPr p) (hm : m ≤ 81) (hi : 0 ≤ i ∧ i < m) (hc : 1 ≤ c ∧ c < p) (hI : IK i = 0) (h : rkC p IK KR A m B R) (hR : R < m)
    (h1 : ∀ x, (x < i * 81 ∨ i * 81 + m ≤ x) → KR' x = KR x) (h2 : KR' (i * 81 + i) = 1) (h3 : ∀ j, 0 ≤ j → j < i → KR' (i * 81 + j) = 0)
    (hA : ∃ f : Int → Int, ∀ j, 0 ≤ j → j < m → mE p (A j B) (c * KR' (i * 81 + j) + sm (fun a => f a * kR IK KR a j) m.toNat)) : rkC p (up IK i 1) KR' A m (B + 1) (R + 1) := by
  obtain ⟨N, g3, g4, g5⟩ := h
  have e : N = B := by omega
  subst e
  exact ⟨N + 1, ⟨by omega, Int.le_refl _⟩, .inl rfl, rkI_B hp g3.1 hm hi hc hI g5 h1 h2 h3 hA⟩
theorem d97 {f : Int → Int} (h : R97 f) (a b : Int) : -10000 ≤ f a - f b ∧ f a - f b ≤ 10000 := by
  have h1 := h a
  have h2 := h b
  omega
