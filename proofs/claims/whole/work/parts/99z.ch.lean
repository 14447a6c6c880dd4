/-! words of the base inside others: a word is leading if a part of it is -/
def lMo (L : Int → Int) (n D : Int) : Prop := L 0 = 0 ∧ ∀ d w, 1 ≤ d → d ≤ D → 0 ≤ w → w < sW n D d → (¬ L (sS n D (d - 1) + w / n) = 0 → ¬ L (sS n D d + w) = 0) ∧ (¬ L (sS n D (d - 1) + w % sW n D (d - 1)) = 0 → ¬ L (sS n D d + w) = 0)
theorem ldOk_mo {L : Int → Int} {n D p : Int} {LW : Int → (Int → Int) → Prop} (hO : sOk n D p) (h : ldOk L n D p LW) : lMo L n D := by
  obtain ⟨h1, h2⟩ := h
  have hp := hO.2.2.2.1
  have hn := hO.1.1
  constructor
  · rcases h1 0 with e | e
    · exact e
    · have h3 := (h2 0 0 (Int.le_refl 0) (by have := hO.2.1.1; omega) (Int.le_refl 0) (by rw [sW_0 (by have := hO.2.1.1; omega)]; decide)).mp (by rw [sS_0]; exact e)
      obtain ⟨v, a, b, -⟩ := h3
      exact absurd a b
  · intro d w hd hD h0 hw
    obtain ⟨-, hn0, hW0, -⟩ := wd_lt hO hd ⟨h0, hw⟩
    have hww := wd_lt hO hd ⟨h0, hw⟩
    have hws : sW n D d = sW n D (d - 1) * n := by have := sW_succ (n := n) (D := D) (k := d - 1) (by omega) (by omega); rw [Int.sub_add_cancel] at this; exact this
    have ed : d.toNat = (d - 1).toNat + 1 := by omega
    have ec : (((d - 1).toNat : Nat) : Int) = d - 1 := by omega
    have key : ∀ y, hasTop p (sW n D d) (nV n D p LW d.toNat) y → 0 ≤ y → y < sW n D d → ¬ L (sS n D d + y) = 0 := fun y g a b e => by
      have := (h2 d y (by omega) hD a b).mpr g; omega
    constructor
    · intro g
      have g1 : L (sS n D (d - 1) + w / n) = 1 := by have := h1 (sS n D (d - 1) + w / n); omega
      obtain ⟨v, v1, v2, v3⟩ := (h2 (d - 1) (w / n) (by omega) (by omega) hww.2.2.1.1 hww.2.2.1.2).mp g1
      refine key w ?_ h0 hw
      have e1 := Int.emod_nonneg w (show n ≠ 0 by omega)
      have e2 := Int.emod_lt_of_pos w hww.1
      refine ⟨xr n (w % n) v, by rw [ed]; exact nV_xr v1 e1 e2, ?_, fun j a b => ?_⟩
      · unfold xr; rw [if_pos rfl]; exact v2
      · unfold xr
        by_cases c : j % n = w % n
        · rw [if_pos c]
          have q1 := Int.emod_add_mul_ediv j n
          have q2 := Int.emod_add_mul_ediv w n
          refine v3 (j / n) ?_ (Int.ediv_lt_of_lt_mul hww.1 (by rw [← hws]; exact b))
          rcases Int.lt_or_le (w / n) (j / n) with q | q
          · exact q
          · have := Int.mul_le_mul_of_nonneg_left q (show 0 ≤ n by omega); omega
        · rw [if_neg c]; exact Int.dvd_zero p
    · intro g
      have g1 : L (sS n D (d - 1) + w % sW n D (d - 1)) = 1 := by have := h1 (sS n D (d - 1) + w % sW n D (d - 1)); omega
      obtain ⟨v, v1, v2, v3⟩ := (h2 (d - 1) (w % sW n D (d - 1)) (by omega) (by omega) hww.2.2.2.1.1 hww.2.2.2.1.2).mp g1
      refine key w ?_ h0 hw
      have q := dv hn h0 (by rw [← hws]; exact hw) (sW_nn (D := D) (k := d - 1) hn)
      have hx := nV_xl (n := n) (D := D) (p := p) (LW := LW) (d := (d - 1).toNat) v1 q.2.2.1 q.2.2.2.1
      rw [ec, ← ed] at hx
      refine ⟨_, hx, ?_, fun j a b => ?_⟩
      · unfold xl
        rw [if_pos (by omega), show w - w / sW n D (d - 1) * sW n D (d - 1) = w % sW n D (d - 1) by omega]; exact v2
      · unfold xl
        by_cases c : w / sW n D (d - 1) * sW n D (d - 1) ≤ j ∧ j < w / sW n D (d - 1) * sW n D (d - 1) + sW n D (d - 1)
        · rw [if_pos c]; exact v3 _ (by omega) (by omega)
        · rw [if_neg c]; exact Int.dvd_zero p
/-- a part of a word, from one place to another -/
def sbW (n D m w a b : Int) : Int := w / sW n D (m - b) % sW n D (b - a)
section CHM
variable {L : Int → Int} {n D p : Int}
theorem em_ed {w A B : Int} (hA : 0 < A) (hB : 0 < B) : w % (A * B) / A = w / A % B := by
  have h1 := Int.emod_add_mul_ediv w A
  have h2 := Int.emod_nonneg w (show A ≠ 0 by omega)
  have h3 := Int.emod_lt_of_pos w hA
  have h4 := Int.emod_add_mul_ediv (w / A) B
  have h5 := Int.emod_nonneg (w / A) (show B ≠ 0 by omega)
  have h6 := Int.emod_lt_of_pos (w / A) hB
  have h7 := dv_in (W := A) (n := B) (t := w % A) (y := w / A % B) h2 h3 h5 h6
  have h8 : w = (w / A / B) * (A * B) + (w / A % B * A + w % A) := by
    have e1 : A * (w / A) = A * (w / A % B + B * (w / A / B)) := by rw [h4]
    rw [Int.mul_add] at e1
    have e2 : (w / A / B) * (A * B) = A * (B * (w / A / B)) := by grind
    have e3 : w / A % B * A = A * (w / A % B) := Int.mul_comm _ _
    omega
  have h9 := (dv_q (W := A * B) (y := w / A / B) h7.1 h7.2).2
  rw [← h8] at h9
  rw [h9]
  exact (dv_q h2 h3).1
theorem hd_b {m k w : Int} (hO : sOk n D p) (hk : 0 ≤ k ∧ k ≤ m) (hm : m ≤ D) (hw : 0 ≤ w ∧ w < sW n D m) : 0 < sW n D k ∧ 0 ≤ w / sW n D k ∧ w / sW n D k < sW n D (m - k) ∧ 0 ≤ w % sW n D k ∧ w % sW n D k < sW n D k := by
  have e : sW n D m = sW n D k * sW n D (m - k) := by rw [← sW_add hk.1 (by omega) (by omega), show k + (m - k) = m by omega]
  rw [e] at hw
  have q := dv (sW_nn hO.1.1) hw.1 hw.2 (sW_nn hO.1.1)
  exact ⟨q.1, q.2.2.1, q.2.2.2.1, q.2.2.2.2.1, q.2.2.2.2.2.1⟩
theorem hd_s {k w : Int} (hn : 0 ≤ n) (hk : 0 ≤ k ∧ k < D) : w / sW n D (k + 1) = w / sW n D k / n := by
  rw [sW_succ hk.1 hk.2, Int.ediv_ediv_of_nonneg (sW_nn hn)]
/-- from a first part -/
theorem ld_pre (hO : sOk n D p) (hL : lMo L n D) : ∀ (k : Nat) (m w : Int), (k : Int) ≤ m → m ≤ D → 0 ≤ w → w < sW n D m → ¬ L (sS n D (m - k) + w / sW n D k) = 0 → ¬ L (sS n D m + w) = 0
  | 0, m, w, h1, h2, h3, h4, h => by
    rw [show ((0 : Nat) : Int) = 0 from rfl, sW_0 (by have := hO.2.1.1; omega), Int.ediv_one, Int.sub_zero] at h
    exact h
  | k + 1, m, w, h1, h2, h3, h4, h => by
    refine ld_pre hO hL k m w (by omega) h2 h3 h4 ?_
    have hb := hd_b hO (k := k) ⟨by omega, by omega⟩ h2 ⟨h3, h4⟩
    refine (hL.2 (m - k) (w / sW n D k) (by omega) (by omega) hb.2.1 hb.2.2.1).1 ?_
    rw [show ((k + 1 : Nat) : Int) = (k : Int) + 1 by omega, hd_s hO.1.1 ⟨by omega, by omega⟩] at h
    rw [show m - (k : Int) - 1 = m - ((k : Int) + 1) by omega]
    exact h
/-- from a last part -/
theorem ld_suf (hO : sOk n D p) (hL : lMo L n D) : ∀ (k : Nat) (m b w : Int), m = b + k → 0 ≤ b → m ≤ D → 0 ≤ w → w < sW n D m → ¬ L (sS n D b + w % sW n D b) = 0 → ¬ L (sS n D m + w) = 0
  | 0, m, b, w, h0, h1, h2, h3, h4, h => by
    have e : m = b := by omega
    rw [← e, Int.emod_eq_of_lt h3 h4] at h
    exact h
  | k + 1, m, b, w, h0, h1, h2, h3, h4, h => by
    have hb := hd_b hO (k := b + 1) ⟨by omega, by omega⟩ h2 ⟨h3, h4⟩
    refine ld_suf hO hL k m (b + 1) w (by omega) (by omega) h2 h3 h4 ?_
    refine (hL.2 (b + 1) (w % sW n D (b + 1)) (by omega) (by omega) hb.2.2.2.1 hb.2.2.2.2).2 ?_
    rw [show b + 1 - 1 = b by omega, Int.emod_emod_of_dvd w ⟨n, sW_succ h1 (by omega)⟩]
    exact h
theorem sbW_b {m w a b : Int} (hO : sOk n D p) (ha : 0 ≤ a) (hab : a ≤ b) (hb : b ≤ m) (hm : m ≤ D) (hw : 0 ≤ w ∧ w < sW n D m) : 0 ≤ sbW n D m w a b ∧ sbW n D m w a b < sW n D (b - a) := by
  have h1 := hd_b hO (k := m - b) ⟨by omega, by omega⟩ hm hw
  rw [show m - (m - b) = b by omega] at h1
  have h2 := hd_b hO (k := b - a) (m := b) ⟨by omega, by omega⟩ (by omega) ⟨h1.2.1, h1.2.2.1⟩
  exact ⟨h2.2.2.2.1, h2.2.2.2.2⟩
theorem ld_sub {m w a b : Int} (hO : sOk n D p) (hL : lMo L n D) (ha : 0 ≤ a) (hab : a ≤ b) (hb : b ≤ m) (hm : m ≤ D) (hw : 0 ≤ w ∧ w < sW n D m) (h : ¬ L (sS n D (b - a) + sbW n D m w a b) = 0) : ¬ L (sS n D m + w) = 0 := by
  have h1 := hd_b hO (k := m - b) ⟨by omega, by omega⟩ hm hw
  rw [show m - (m - b) = b by omega] at h1
  have h2 := ld_suf hO hL a.toNat b (b - a) (w / sW n D (m - b)) (by omega) (by omega) (by omega) h1.2.1 h1.2.2.1 h
  refine ld_pre hO hL (m - b).toNat m w (by omega) hm hw.1 hw.2 ?_
  rw [show (((m - b).toNat : Nat) : Int) = m - b by omega, show m - (m - b) = b by omega]
  exact h2
/-- parts of the first part, and of the last part -/
theorem sb_head {m w a b : Int} (hO : sOk n D p) (hb : b ≤ m - 1) (h0 : 0 ≤ b) (hm : m ≤ D) : sbW n D (m - 1) (w / n) a b = sbW n D m w a b := by
  unfold sbW
  have e : w / n / sW n D (m - 1 - b) = w / sW n D (m - b) := by
    rw [show m - b = (m - 1 - b) + 1 by omega, sW_succ (by omega) (by omega), Int.mul_comm, ← Int.ediv_ediv_of_nonneg hO.1.1]
  rw [e]
theorem sb_tail {m w a b : Int} (hO : sOk n D p) (ha : 0 ≤ a) (hab : a < b) (hb : b ≤ m - 1) (hm : m ≤ D) (hw : 0 ≤ w ∧ w < sW n D m) : sbW n D (m - 1) (w % sW n D (m - 1)) a b = sbW n D m w (a + 1) (b + 1) := by
  unfold sbW
  have h1 := hd_b hO (k := m - 1 - b) ⟨by omega, by omega⟩ hm hw
  have h2 := hd_b hO (k := b) ⟨by omega, by omega⟩ hm hw
  have e : sW n D (m - 1) = sW n D (m - 1 - b) * sW n D b := by rw [← sW_add (by omega) (by omega) (by omega), show m - 1 - b + b = m - 1 by omega]
  rw [e, em_ed h1.1 h2.1, show m - (b + 1) = m - 1 - b by omega, show b + 1 - (a + 1) = b - a by omega]
  refine Int.emod_emod_of_dvd _ ⟨sW n D a, ?_⟩
  rw [← sW_add (by omega) ha (by omega), show b - a + a = b by omega]
/-- a leading word has a word of the base in it -/
theorem ld_base (hO : sOk n D p) (hL : lMo L n D) : ∀ (k : Nat) (m w : Int), m ≤ k → 0 ≤ m → m ≤ D → 0 ≤ w → w < sW n D m → ¬ L (sS n D m + w) = 0 → ∃ a b, 0 ≤ a ∧ a < b ∧ b ≤ m ∧ isB L n D (b - a) (sbW n D m w a b)
  | 0, m, w, h1, h2, h3, h4, h5, h => by
    have e : m = 0 := by omega
    rw [e, sW_0 (by omega)] at h5
    rw [e, sS_0, show w = 0 by omega] at h
    exact absurd hL.1 h
  | k + 1, m, w, h1, h2, h3, h4, h5, h => by
    by_cases e : m = 0
    · rw [e, sW_0 (by omega)] at h5
      rw [e, sS_0, show w = 0 by omega] at h
      exact absurd hL.1 h
    · have q := wd_lt hO (show 1 ≤ m by omega) ⟨h4, h5⟩
      by_cases g1 : ¬ L (sS n D (m - 1) + w / n) = 0
      · obtain ⟨a, b, a1, a2, a3, a4⟩ := ld_base hO hL k (m - 1) (w / n) (by omega) (by omega) (by omega) q.2.2.1.1 q.2.2.1.2 g1
        rw [sb_head hO a3 (by omega) h3] at a4
        exact ⟨a, b, a1, a2, by omega, a4⟩
      · by_cases g2 : ¬ L (sS n D (m - 1) + w % sW n D (m - 1)) = 0
        · obtain ⟨a, b, a1, a2, a3, a4⟩ := ld_base hO hL k (m - 1) (w % sW n D (m - 1)) (by omega) (by omega) (by omega) q.2.2.2.1.1 q.2.2.2.1.2 g2
          rw [sb_tail hO a1 a2 a3 h3 ⟨h4, h5⟩] at a4
          exact ⟨a + 1, b + 1, by omega, by omega, by omega, by rw [show b + 1 - (a + 1) = b - a by omega]; exact a4⟩
        · refine ⟨0, m, Int.le_refl 0, by omega, Int.le_refl m, ?_⟩
          have e2 : sbW n D m w 0 m = w := by
            unfold sbW
            rw [Int.sub_self, sW_0 (by have := hO.2.1.1; omega), Int.ediv_one, Int.sub_zero, Int.emod_eq_of_lt h4 h5]
          rw [e2, Int.sub_zero]
          exact ⟨by omega, h, Decidable.not_not.mp g2, Decidable.not_not.mp g1⟩
abbrev okE (L : Int → Int) (n D m w : Int) : Prop := ¬ L (sS n D m + w) = 0 ∧ L (sS n D (m - 1) + w / n) = 0
def eoW (L : Int → Int) (n D m w : Int) : Prop := ∃ f, (0 ≤ f ∧ f < m) ∧ isB L n D (m - f) (sbW n D m w f m) ∧ ∀ a b, 0 ≤ a → a < b → b ≤ m → isB L n D (b - a) (sbW n D m w a b) → a = f ∧ b = m
theorem sb_sub {m w a f : Int} (hO : sOk n D p) (ha : 0 ≤ a) (haf : a ≤ f) (hf : f ≤ m) (hm : m ≤ D) : sbW n D m w a m % sW n D (m - f) = sbW n D m w f m := by
  unfold sbW
  refine Int.emod_emod_of_dvd _ ⟨sW n D (f - a), ?_⟩
  rw [← sW_add (by omega) (by omega) (by omega), show m - f + (f - a) = m - a by omega]
/-- of two words of the base that end together neither is longer -/
theorem eo_same {m w a f : Int} (hO : sOk n D p) (hL : lMo L n D) (ha : 0 ≤ a) (haf : a < f) (hf : f < m) (hm : m ≤ D) (hw : 0 ≤ w ∧ w < sW n D m) (h1 : isB L n D (m - a) (sbW n D m w a m)) (h2 : isB L n D (m - f) (sbW n D m w f m)) : False := by
  have e1 : sbW n D m w a m % sW n D (m - a - 1) = sbW n D m w (a + 1) m := by rw [show m - a - 1 = m - (a + 1) by omega]; exact sb_sub hO ha (by omega) (by omega) hm
  have h3 := h1.2.2.1
  rw [e1, show m - a - 1 = m - (a + 1) by omega] at h3
  have hb := sbW_b hO (a := a + 1) (b := m) (by omega) (by omega) (Int.le_refl m) hm hw
  refine ld_suf hO hL (f - (a + 1)).toNat (m - (a + 1)) (m - f) (sbW n D m w (a + 1) m) (by omega) (by omega) (by omega) hb.1 hb.2 ?_ h3
  rw [sb_sub hO (by omega) (by omega) (by omega) hm]
  exact h2.2.1
theorem eo_iff {m w : Int} (hO : sOk n D p) (hL : lMo L n D) (hm : 1 ≤ m ∧ m ≤ D) (hw : 0 ≤ w ∧ w < sW n D m) : okE L n D m w ↔ eoW L n D m w := by
  have q := wd_lt hO hm.1 hw
  have inh : ∀ a b, 0 ≤ a → a < b → b ≤ m - 1 → isB L n D (b - a) (sbW n D m w a b) → ¬ L (sS n D (m - 1) + w / n) = 0 := fun a b a1 a2 a3 a4 => by
    refine ld_sub hO hL a1 (by omega) a3 (by omega) q.2.2.1 ?_
    rw [sb_head hO a3 (by omega) hm.2]
    exact a4.2.1
  constructor
  · rintro ⟨h1, h2⟩
    have hend : ∀ a b, 0 ≤ a → a < b → b ≤ m → isB L n D (b - a) (sbW n D m w a b) → b = m := fun a b a1 a2 a3 a4 => by
      rcases Int.lt_or_eq_of_le a3 with g | g
      · exact absurd h2 (inh a b a1 a2 (by omega) a4)
      · exact g
    obtain ⟨a, b, a1, a2, a3, a4⟩ := ld_base hO hL m.toNat m w (by omega) (by omega) hm.2 hw.1 hw.2 h1
    have e := hend a b a1 a2 a3 a4
    subst e
    refine ⟨a, ⟨a1, a2⟩, a4, fun c d c1 c2 c3 c4 => ?_⟩
    have e2 := hend c d c1 c2 c3 c4
    subst e2
    rcases Int.lt_trichotomy a c with g | g | g
    · exact (eo_same hO hL a1 g c2 hm.2 hw a4 c4).elim
    · exact ⟨g.symm, rfl⟩
    · exact (eo_same hO hL c1 g a2 hm.2 hw c4 a4).elim
  · rintro ⟨f, h1, h2, h3⟩
    refine ⟨ld_sub hO hL h1.1 (by omega) (Int.le_refl m) hm.2 hw h2.2.1, Decidable.byContradiction fun g => ?_⟩
    obtain ⟨a, b, a1, a2, a3, a4⟩ := ld_base hO hL (m - 1).toNat (m - 1) (w / n) (by omega) (by omega) (by omega) q.2.2.1.1 q.2.2.1.2 g
    rw [sb_head hO a3 (by omega) hm.2] at a4
    have := h3 a b a1 a2 (by omega) a4
    omega
end CHM
