theorem qd_y {P : Prop} {r : Int} (h : (r = 1 ∧ P) ∨ (r = 0 ∧ ¬ P)) : ¬ r = 0 → P := fun hr => by
  rcases h with h | h
  · exact h.2
  · exact absurd h.1 hr
theorem qd_n {P : Prop} {r : Int} (h : (r = 1 ∧ P) ∨ (r = 0 ∧ ¬ P)) : r = 0 → ¬ P := fun hr => by
  rcases h with h | h
  · have := h.1; omega
  · exact h.2
theorem bT_c {f g f' g' : Int → Int} {d D : Int} (hf : ∀ k, 0 ≤ k → k ≤ D → f k = f' k) (hg : ∀ k, 0 ≤ k → k ≤ D → g k = g' k) (h0 : 0 ≤ d) (hd : d ≤ D) : bT f g d = bT f' g' d := sm_ext _ (fun j a b => by
  show (if j % 2 = 0 then f (d - j) * g j else -(f (d - j) * g j)) = (if j % 2 = 0 then f' (d - j) * g' j else -(f' (d - j) * g' j))
  rw [hf (d - j) (by omega) (by omega), hg j a (by omega)])
def fbP (f g : Int → Int) (D r : Int) : Prop := (r = -1 ∧ ∀ d, 1 ≤ d → d ≤ D → bT f g d = 0) ∨ ((1 ≤ r ∧ r ≤ D) ∧ ¬ bT f g r = 0 ∧ ∀ d, 1 ≤ d → d < r → bT f g d = 0)
theorem fb_c {fm fs ld sz rw_ fm' fs' ld' sz' rw' L L1 : Int → Int} {n D p r : Int} {LW LW' : Int → (Int → Int) → Prop} (hO : sOk n D p) (g : cNg fm fs ld sz rw_ n D p LW D) (g' : cNg fm' fs' ld' sz' rw' n D p LW' D) (hL : ldOk L n D p LW) (hL1 : ldOk L1 n D p LW') (h : (r = -1 ∧ ∀ d, 1 ≤ d → d ≤ D → bT sz sz' d = 0) ∨ ((1 ≤ r ∧ r ≤ D) ∧ ¬ bT sz sz' r = 0 ∧ ∀ d, 1 ≤ d → d < r → bT sz sz' d = 0)) : fbP (szL L n D) (szL L1 n D) D r := by
  have e := fun d (a : 0 ≤ d) (b : d ≤ D) => bT_c (f := sz) (g := sz') (fun k a b => cNg_sz hO g hL a b) (fun k a b => cNg_sz hO g' hL1 a b) a b
  rcases h with ⟨h1, h2⟩ | ⟨h1, h2, h3⟩
  · exact .inl ⟨h1, fun d a b => by rw [← e d (by omega) b]; exact h2 d a b⟩
  · exact .inr ⟨h1, by rw [← e r (by omega) h1.2]; exact h2, fun d a b => by rw [← e d (by omega) (by omega)]; exact h3 d a b⟩
theorem fb_b {f g : Int → Int} {D r : Int} (h : fbP f g D r) (hD : D ≤ 7) : -1 ≤ r ∧ r ≤ 7 := by
  rcases h with ⟨h1, _⟩ | ⟨h1, _⟩ <;> omega
theorem fb_n {f g : Int → Int} {D r : Int} (h : fbP f g D r) : r = -1 → ∀ d, 1 ≤ d → d ≤ D → bT f g d = 0 := fun hr => by
  rcases h with ⟨_, h2⟩ | ⟨h1, _⟩
  · exact h2
  · omega
theorem fb_p {f g : Int → Int} {D r : Int} (h : fbP f g D r) : ¬ r = -1 → (1 ≤ r ∧ r ≤ D) ∧ ¬ bT f g r = 0 ∧ ∀ d, 1 ≤ d → d < r → bT f g d = 0 := fun hr => by
  rcases h with ⟨h1, _⟩ | h1
  · exact absurd h1 hr
  · exact h1
