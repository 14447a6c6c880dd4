/-! THE MODEL: its shape in its cells -/
def mI (σ : en_m) (n D p : Int) : Prop := sOk n D p ∧ (σ r_Md_live 0 = 0 ∨ σ r_Md_live 0 = 1) ∧ σ r_Md_letters (σ r_Md_live 0) = n ∧ σ r_Md_degree (σ r_Md_live 0) = D ∧ σ r_Md_prime (σ r_Md_live 0) = p ∧ (∀ k : Int, 0 ≤ k → k ≤ 8 → σ r_Md_powers (9 * σ r_Md_live 0 + k) = sW n D k) ∧ ∀ k : Int, 0 ≤ k → k ≤ 8 → σ r_Md_starts (9 * σ r_Md_live 0 + k) = sS n D k
theorem sR_tc {v p : Int} (h : 0 < p) : (v.tmod p = v % p ∧ 0 ≤ v % p ∧ v % p < p) ∨ (v.tmod p = v % p - p ∧ 0 < v % p ∧ v % p < p) := by
  have e := Int.tmod_eq_emod (a := v) (b := p)
  have h1 := Int.emod_nonneg v (show p ≠ 0 by omega)
  have h2 := Int.emod_lt_of_pos v h
  by_cases c : 0 ≤ v ∨ p ∣ v
  · rw [if_pos c] at e
    exact Or.inl ⟨by omega, h1, h2⟩
  · rw [if_neg c] at e
    have h3 : ¬ v % p = 0 := fun q => c (Or.inr (Int.dvd_of_emod_eq_zero q))
    exact Or.inr ⟨by omega, by omega, h2⟩
theorem sR_tb {v p : Int} (h : 0 < p) : -p < v.tmod p ∧ v.tmod p < p := by
  rcases sR_tc (v := v) h with ⟨h1, h2, h3⟩ | ⟨h1, h2, h3⟩ <;> omega
theorem sR_n {v p : Int} (h : 0 < p) (hv : v.tmod p < 0) : v.tmod p + p = v % p := by
  rcases sR_tc (v := v) h with ⟨h1, h2, h3⟩ | ⟨h1, h2, h3⟩ <;> omega
theorem sR_p {v p : Int} (h : 0 < p) (hv : 0 ≤ v.tmod p) : v.tmod p = v % p := by
  rcases sR_tc (v := v) h with ⟨h1, h2, h3⟩ | ⟨h1, h2, h3⟩ <;> omega
def sAt (n D w : Int) : Int := if 0 ≤ w ∧ w / 1000 ≤ D ∧ w % 1000 < sW n D (w / 1000) then sS n D (w / 1000) + w % 1000 else -1
theorem sAt_b {n D p w : Int} (h : sOk n D p) : -1 ≤ sAt n D w ∧ sAt n D w < 364 := by
  unfold sAt
  split
  · rename_i hc
    have h0 : 0 ≤ w / 1000 := Int.ediv_nonneg hc.1 (by decide)
    have h1 : 0 ≤ w % 1000 := Int.emod_nonneg _ (by decide)
    have := sS_word h h0 ⟨h1, hc.2.2⟩
    omega
  · decide
/-- what a row may be while it is reduced from above: X out of X0, down to k -/
def rdI (p W : Int) (L : Int → Int) (R : Int → Int → Int) (X0 X : Int → Int) (k l : Int) : Prop :=
  R97 X ∧ (∀ j, 0 ≤ j → j < W → 0 ≤ X j ∧ X j < p) ∧ (∀ x, k < x → x < W → L x = 1 → X x = 0) ∧ (∀ V : (Int → Int) → Prop, vSub p W V → (∀ x, 0 ≤ x → x < W → L x = 1 → V (fun j => if j ≤ x then R x j else 0)) → V (fun j => X0 j - X j)) ∧ ((l = -1 ∧ ∀ x, k < x → x < W → X x = 0) ∨ (k < l ∧ l < W ∧ ¬ X l = 0 ∧ L l = 0 ∧ ∀ x, l < x → x < W → X x = 0)) ∧ ∀ x, ¬ (0 ≤ x ∧ x < W) → X x = X0 x
theorem vSub_ext {p W : Int} {V : (Int → Int) → Prop} (h : vSub p W V) {a b : Int → Int} (ha : V a) (hab : ∀ j, 0 ≤ j → j < W → a j = b j) : V b := h.2.2 a b (fun j h0 h1 => by rw [hab j h0 h1, Int.sub_self]; exact Int.zero_emod p) ha
theorem rd_start {p W : Int} {L : Int → Int} {R : Int → Int → Int} {X : Int → Int} (h1 : R97 X) (h2 : ∀ j, 0 ≤ j → j < W → 0 ≤ X j ∧ X j < p) : rdI p W L R X X (W - 1) (-1) :=
  ⟨h1, h2, fun x h3 h4 => by omega, fun V hV _ => vSub_ext hV hV.1 (fun j _ _ => (Int.sub_self _).symm), Or.inl ⟨rfl, fun x h3 h4 => by omega⟩, fun _ _ => rfl⟩
/-- nothing there, or a first word that leads -/
theorem rd_skip0 {p W : Int} {L : Int → Int} {R : Int → Int → Int} {X0 X : Int → Int} {k l : Int} (h : rdI p W L R X0 X k l) (hk : X k = 0) : rdI p W L R X0 X (k + (-1)) l := by
  obtain ⟨a, b, c, d, e, f⟩ := h
  refine ⟨a, b, fun x h1 h2 h3 => ?_, d, ?_, f⟩
  · by_cases hx : x = k
    · rw [hx]; exact hk
    · exact c x (by omega) h2 h3
  · rcases e with ⟨e1, e2⟩ | ⟨e1, e2⟩
    · refine Or.inl ⟨e1, fun x h1 h2 => ?_⟩
      by_cases hx : x = k
      · rw [hx]; exact hk
      · exact e2 x (by omega) h2
    · exact Or.inr ⟨by omega, e2⟩
theorem rd_skip1 {p W : Int} {L : Int → Int} {R : Int → Int → Int} {X0 X : Int → Int} {k l : Int} (h : rdI p W L R X0 X k l) (hL : L k = 0) (hl : 0 ≤ l) : rdI p W L R X0 X (k + (-1)) l := by
  obtain ⟨a, b, c, d, e, f⟩ := h
  refine ⟨a, b, fun x h1 h2 h3 => ?_, d, ?_, f⟩
  · by_cases hx : x = k
    · rw [hx, hL] at h3; omega
    · exact c x (by omega) h2 h3
  · rcases e with ⟨e1, e2⟩ | ⟨e1, e2⟩
    · omega
    · exact Or.inr ⟨by omega, e2⟩
theorem rd_lead {p W : Int} {L : Int → Int} {R : Int → Int → Int} {X0 X : Int → Int} {k l : Int} (h : rdI p W L R X0 X k l) (hk : ¬ X k = 0) (h0 : 0 ≤ k) (hW : k < W) (hL : L k = 0) (hl : l < 0) : rdI p W L R X0 X (k + (-1)) k := by
  obtain ⟨a, b, c, d, e, f⟩ := h
  refine ⟨a, b, fun x h1 h2 h3 => ?_, d, ?_, f⟩
  · by_cases hx : x = k
    · rw [hx, hL] at h3; omega
    · exact c x (by omega) h2 h3
  · rcases e with ⟨e1, e2⟩ | ⟨e1, e2⟩
    · exact Or.inr ⟨by omega, hW, hk, hL, e2⟩
    · omega
theorem rd_step {p W : Int} {L : Int → Int} {R : Int → Int → Int} {X0 X Y : Int → Int} {k l : Int} (hp : 2 ≤ p ∧ p ≤ 97) (h : rdI p W L R X0 X k l) (h0 : 0 ≤ k) (hW : k < W) (hL : L k = 1) (hu : R k k = 1) (hY : Y = seg X 0 (k + 1) (fun x => (X x - X k * R k x) % p)) : rdI p W L R X0 Y (k + (-1)) l := by
  obtain ⟨a, b, c, d, e, f⟩ := h
  have hin : ∀ x, 0 ≤ x → x ≤ k → Y x = (X x - X k * R k x) % p := fun x h1 h2 => by rw [hY]; exact seg_in0 (by omega)
  have hout : ∀ x, (x < 0 ∨ k < x) → Y x = X x := fun x h1 => by rw [hY]; exact seg_out (by omega)
  have hYk : Y k = 0 := by rw [hin k h0 (Int.le_refl k), hu, Int.mul_one, Int.sub_self]; exact Int.zero_emod p
  have hmod : ∀ z : Int, 0 ≤ z % p ∧ z % p < p := fun z => ⟨Int.emod_nonneg _ (by omega), Int.emod_lt_of_pos _ (by omega)⟩
  refine ⟨?_, fun j h1 h2 => ?_, fun x h1 h2 h3 => ?_, fun V hV hr => ?_, ?_, fun x hx => ?_⟩
  · rw [hY]
    exact R97_seg a (fun x _ _ => by have := hmod (X x - X k * R k x); omega)
  · by_cases hj : j ≤ k
    · rw [hin j h1 hj]; exact hmod _
    · rw [hout j (by omega)]; exact b j h1 h2
  · by_cases hx : x = k
    · rw [hx]; exact hYk
    · rw [hout x (by omega)]; exact c x (by omega) h2 h3
  · have h1 := hV.2.1 _ _ (X k) (d V hV hr) (hr k h0 hW hL)
    refine hV.2.2 _ _ (fun j hj0 hjW => ?_) h1
    by_cases hj : j ≤ k
    · rw [if_pos hj, hin j hj0 hj]
      have e1 : X0 j - X j + X k * R k j - (X0 j - (X j - X k * R k j) % p) = (X j - X k * R k j) % p - (X j - X k * R k j) := by omega
      rw [e1]
      have e2 := Int.emod_add_mul_ediv (X j - X k * R k j) p
      have e3 : (X j - X k * R k j) % p - (X j - X k * R k j) = p * (-((X j - X k * R k j) / p)) := by
        rw [Int.mul_neg]; omega
      rw [e3]
      exact Int.mul_emod_right p _
    · rw [if_neg hj, hout j (by omega), Int.mul_zero, Int.add_zero, Int.sub_self]
      exact Int.zero_emod p
  · rcases e with ⟨e1, e2⟩ | ⟨e1, e2, e3, e4, e5⟩
    · refine Or.inl ⟨e1, fun x h1 h2 => ?_⟩
      by_cases hx : x = k
      · rw [hx]; exact hYk
      · rw [hout x (by omega)]; exact e2 x (by omega) h2
    · refine Or.inr ⟨by omega, e2, by rw [hout l (by omega)]; exact e3, e4, fun x h1 h2 => ?_⟩
      rw [hout x (by omega)]
      exact e5 x h1 h2
  · rw [hout x (by omega)]
    exact f x hx
