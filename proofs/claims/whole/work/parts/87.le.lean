/-! places of the machine, steps, sums up to the greatest long -/
def sat (a b : Int) : Int := if 9223372036854775807 < a + b then 9223372036854775807 else a + b
theorem sat_b {a b : Int} (ha : 0 ≤ a ∧ a ≤ 9223372036854775807) (hb : 0 ≤ b ∧ b ≤ 9223372036854775807) : 0 ≤ sat a b ∧ sat a b ≤ 9223372036854775807 := by
  unfold sat
  split <;> omega
def stp (L : Int → Int) (n D q w x : Int) : Int := if L (sS n D q + w) = 0 ∧ L (sS n D q + (w * n + x) % sW n D q) = 0 ∧ (D ≤ q ∨ L (sS n D (q + 1) + (w * n + x)) = 0) then (w * n + x) % sW n D q else -1
def isPL (L : Int → Int) (n D q : Int) : Prop := (q = 1 ∧ ∀ d, 3 ≤ d → d ≤ D → cB L n D d = 0) ∨ ∃ d, (3 ≤ d ∧ d ≤ D) ∧ ¬ cB L n D d = 0 ∧ (∀ e, d < e → e ≤ D → cB L n D e = 0) ∧ q = d - 1
theorem isPL_b {L : Int → Int} {n D q : Int} (h : isPL L n D q) (hD : 1 ≤ D) : 1 ≤ q ∧ q ≤ D ∧ (q = 1 ∨ q + 1 ≤ D) := by
  rcases h with ⟨h1, _⟩ | ⟨d, h1, _, _, h4⟩ <;> omega
theorem isPL_uniq {L : Int → Int} {n D q r : Int} (h : isPL L n D q) (g : isPL L n D r) : q = r := by
  rcases h with ⟨h1, h2⟩ | ⟨d, h1, h2, h3, h4⟩ <;> rcases g with ⟨g1, g2⟩ | ⟨e, g1, g2, g3, g4⟩
  · omega
  · exact absurd (h2 e g1.1 g1.2) g2
  · exact absurd (g2 d h1.1 h1.2) h2
  · rcases Int.lt_trichotomy d e with c | c | c
    · exact absurd (h3 e c g1.2) g2
    · omega
    · exact absurd (g3 d c h1.2) h2
def mostS (L : Int → Int) (n D m d : Int) : Prop := (m = 0 ∧ ∀ e, 1 ≤ e → e < d → cB L n D e = 0) ∨ ((1 ≤ m ∧ m < d) ∧ ¬ cB L n D m = 0 ∧ ∀ e, m < e → e < d → cB L n D e = 0)
theorem mostS_b {L : Int → Int} {n D m d : Int} (h : mostS L n D m d) (hd : 1 ≤ d) : 0 ≤ m ∧ m < d := by
  rcases h with ⟨h, _⟩ | ⟨h, _⟩ <;> omega
theorem mostS_0 {L : Int → Int} {n D : Int} : mostS L n D 0 1 := .inl ⟨rfl, fun e a b => by omega⟩
theorem mostS_no {L : Int → Int} {n D m d : Int} (h : mostS L n D m d) (hc : cB L n D d = 0) : mostS L n D m (d + 1) := by
  rcases h with ⟨h1, h2⟩ | ⟨h1, h2, h3⟩
  · refine .inl ⟨h1, fun e a b => ?_⟩
    by_cases c : e = d
    · rw [c]; exact hc
    · exact h2 e a (by omega)
  · refine .inr ⟨by omega, h2, fun e a b => ?_⟩
    by_cases c : e = d
    · rw [c]; exact hc
    · exact h3 e a (by omega)
theorem mostS_yes {L : Int → Int} {n D d : Int} (hd : 1 ≤ d) (hc : ¬ cB L n D d = 0) : mostS L n D d (d + 1) := .inr ⟨by omega, hc, fun e a b => by omega⟩
theorem mostS_e {L : Int → Int} {n D m d q : Int} (h : mostS L n D m d) (hd : d = D + 1) (hq : (2 < m ∧ q = m - 1) ∨ (m ≤ 2 ∧ q = 1)) : isPL L n D q := by
  subst hd
  rcases h with ⟨h1, h2⟩ | ⟨h1, h2, h3⟩
  · exact .inl ⟨by omega, fun e a b => h2 e (by omega) (by omega)⟩
  · rcases hq with ⟨g1, g2⟩ | ⟨g1, g2⟩
    · exact .inr ⟨m, by omega, h2, fun e a b => h3 e a (by omega), g2⟩
    · exact .inl ⟨g2, fun e a b => h3 e (by omega) (by omega)⟩
theorem w64_0 : w64 0 = 0 := w64_of ⟨by decide, by decide⟩
theorem ct_X12_more (σ : en_m) (a b : Int) (ha : 0 ≤ a ∧ a ≤ 9223372036854775807) (hb : 0 ≤ b ∧ b ≤ 9223372036854775807) : en_fn z_X12_more [.inr (.inl a), .inr (.inl b)] σ (.inr (.inl (sat a b))) := by
  show en_wp k_X12_more 0 [some (.inr (.inl a)), none, some (.inr (.inl b)), none, none, none] [] (srl σ []) (fun r σ' => r = some (.inr (.inl (sat a b))) ∧ σ' = σ)
  refine wp_run 6 (pc' := 8) (ls' := [some (.inr (.inl a)), none, some (.inr (.inl b)), none, some (.inr (.inl (a + b))), none]) (st' := [.inr (.inl 0), .inr (.inl (a + b))]) (σ' := srl σ []) rfl ?_
  by_cases h : 9223372036854775807 < a + b
  · have hw : w64 (a + b) < w64 0 := by
      rw [w64_0]
      unfold w64
      rw [Int.bmod_def]
      split <;> omega
    refine wp_st (x := (9, [some (.inr (.inl a)), none, some (.inr (.inl b)), none, some (.inr (.inl (a + b))), none], [.inl (-1)], srl σ [])) rfl (by simp only [en_st, if_pos hw]) ?_
    refine wp_if_ge rfl ⟨by decide, by decide⟩ (fun g => by omega) (fun _ => ?_)
    refine wp_run 2 (pc' := 20) (ls' := [some (.inr (.inl a)), none, some (.inr (.inl b)), none, some (.inr (.inl (a + b))), none]) (st' := [.inr (.inl 9223372036854775807)]) (σ' := srl σ []) rfl ?_
    exact wp_lret rfl ⟨by unfold sat; rw [if_pos h], rfl⟩
  · have hw : w64 (a + b) = a + b := w64_of ⟨by omega, by omega⟩
    refine wp_st (x := (9, [some (.inr (.inl a)), none, some (.inr (.inl b)), none, some (.inr (.inl (a + b))), none], [.inl (if w64 0 < w64 (a + b) then 1 else 0)], srl σ [])) rfl (by simp only [en_st]; rw [if_neg (show ¬ w64 (a + b) < w64 0 by rw [hw, w64_0]; omega)]) ?_
    refine wp_if_ge rfl (by split <;> exact ⟨by decide, by decide⟩) (fun _ => ?_) (fun g => by split at g <;> omega)
    refine wp_run 1 (pc' := 20) (ls' := [some (.inr (.inl a)), none, some (.inr (.inl b)), none, some (.inr (.inl (a + b))), none]) (st' := [.inr (.inl (a + b))]) (σ' := srl σ []) rfl ?_
    exact wp_lret rfl ⟨by unfold sat; rw [if_neg h], rfl⟩
/-- one letter more: places in their order, letters in theirs -/
def gX (L : Int → Int) (n D q : Int) (f : Int → Int) (w : Int) (g : Int → Int) : Nat → Int → Int
  | 0 => g
  | x + 1 => if 0 ≤ stp L n D q w x ∧ 0 < f w then up (gX L n D q f w g x) (stp L n D q w x) (sat (gX L n D q f w g x (stp L n D q w x)) (f w)) else gX L n D q f w g x
def gW (L : Int → Int) (n D q : Int) (f : Int → Int) : Nat → Int → Int
  | 0 => fun _ => 0
  | w + 1 => gX L n D q f w (gW L n D q f w) n.toNat
def wy (L : Int → Int) (n D q : Int) : Nat → Int → Int
  | 0 => fun w => if L (sS n D q + w) = 0 then 1 else 0
  | k + 1 => gW L n D q (wy L n D q k) (sW n D q).toNat
def smS (f : Int → Int) : Nat → Int
  | 0 => 0
  | k + 1 => sat (smS f k) (f k)
theorem bI_z {P : Prop} [Decidable P] (h : bI P = 0) : ¬ P := fun g => by rw [bI_t g] at h; cases h
theorem bI_nz {P : Prop} [Decidable P] (h : ¬ bI P = 0) : P := Decidable.byContradiction fun g => h (bI_f g)
theorem stp_b (L : Int → Int) {n D q w x : Int} (h : 0 < sW n D q) : -1 ≤ stp L n D q w x ∧ stp L n D q w x < sW n D q := by
  have h1 := Int.emod_nonneg (w * n + x) (show sW n D q ≠ 0 by omega)
  have h2 := Int.emod_lt_of_pos (w * n + x) h
  unfold stp
  split <;> omega
