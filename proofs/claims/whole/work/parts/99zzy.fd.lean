/-! the first name that is the same -/
noncomputable def fd (NM : Int → Int) (pk m : Int) : Int := rn (fun j => ¬ NM j = pk) m 0
theorem fd_no {NM : Int → Int} {pk m : Int} (hm : 0 ≤ m) (h : ∀ j, 0 ≤ j → j < m → ¬ NM j = pk) : fd NM pk m = m := rn_eq hm (Int.le_refl m) h (fun q => absurd q (by omega))
theorem fd_yes {NM : Int → Int} {pk m j : Int} (hj : 0 ≤ j ∧ j < m) (h : NM j = pk) (h2 : ∀ x, 0 ≤ x → x < j → ¬ NM x = pk) : fd NM pk m = j := rn_eq hj.1 (by omega) h2 (fun _ q => q h)
theorem fd_b {NM : Int → Int} {pk m : Int} (hm : 0 ≤ m) : 0 ≤ fd NM pk m ∧ fd NM pk m ≤ m := (rn_b (q := fun j => ¬ NM j = pk) (N := m) (i := 0) hm).1
/-- which letter a name is; m if it is none -/
def rsQ (NM : Int → Int) (m : Int) (PK NU NU' : Int → Int) (i r : Int) : Prop := (r = 0 ∧ fd NM (PK i) m = m ∧ NU' = NU) ∨ (r = 1 ∧ fd NM (PK i) m < m ∧ NU' = up NU i (fd NM (PK i) m))
theorem rs_of {NM : Int → Int} {m : Int} {PK NU NU' : Int → Int} {i r : Int} (hm : 0 ≤ m) (h : (r = 0 ∧ NU' = NU ∧ ∀ j, 0 ≤ j → j < m → ¬ NM j = PK i) ∨ (r = 1 ∧ ∃ j, (0 ≤ j ∧ j < m) ∧ NM j = PK i ∧ (∀ x, 0 ≤ x → x < j → ¬ NM x = PK i) ∧ NU' = up NU i j)) : rsQ NM m PK NU NU' i r := by
  rcases h with ⟨h1, h2, h3⟩ | ⟨h1, j, h2, h3, h4, h5⟩
  · exact .inl ⟨h1, fd_no hm h3, h2⟩
  · have e := fd_yes h2 h3 h4
    exact .inr ⟨h1, by omega, by rw [e]; exact h5⟩
/-- names told from a list of letters, tokens 0 to k -/
def raQ (NM : Int → Int) (m : Int) (K PK NU NU' : Int → Int) (k : Int) : Prop := (∀ j, 0 ≤ j → j < k → K j = 5 → fd NM (PK j) m < m ∧ NU' j = fd NM (PK j) m) ∧ ∀ j, (¬ K j = 5 ∨ k ≤ j) → NU' j = NU j
theorem ra_0 {NM : Int → Int} {m : Int} {K PK NU : Int → Int} : raQ NM m K PK NU NU 0 := ⟨fun j a b => by omega, fun _ _ => rfl⟩
theorem ra_n {NM : Int → Int} {m : Int} {K PK NU NU' : Int → Int} {k : Int} (h : raQ NM m K PK NU NU' k) (g : ¬ K k = 5) : raQ NM m K PK NU NU' (k + 1) := by
  refine ⟨fun j a b c => ?_, fun j c => ?_⟩
  · by_cases e : j = k
    · subst e; exact absurd c g
    · exact h.1 j a (by omega) c
  · rcases c with c | c
    · exact h.2 j (.inl c)
    · exact h.2 j (.inr (by omega))
theorem ra_y {NM : Int → Int} {m : Int} {K PK NU NU' NU2 : Int → Int} {k : Int} (h : raQ NM m K PK NU NU' k) (g : K k = 5) (hr : fd NM (PK k) m < m ∧ NU2 = up NU' k (fd NM (PK k) m)) : raQ NM m K PK NU NU2 (k + 1) := by
  obtain ⟨h1, h2⟩ := hr
  subst h2
  refine ⟨fun j a b c => ?_, fun j c => ?_⟩
  · by_cases e : j = k
    · subst e; rw [up_eq]; exact ⟨h1, rfl⟩
    · rw [up_ne e]; exact h.1 j a (by omega) c
  · have e : ¬ j = k := by
      intro e; subst e
      rcases c with c | c
      · exact c g
      · omega
    rw [up_ne e]
    rcases c with c | c
    · exact h.2 j (.inl c)
    · exact h.2 j (.inr (by omega))
