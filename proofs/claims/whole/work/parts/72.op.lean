/-! overlaps of the base that are too long; places of the machine -/
def opn (n D a u b v : Int) : Prop := ∃ o, 1 ≤ o ∧ o < a ∧ o < b ∧ D < a + b - o ∧ u % sW n D o = v / sW n D (b - o)
def cls (L : Int → Int) (n D : Int) : Prop := ∀ a u b v, 1 ≤ a → a ≤ D → 0 ≤ u → u < sW n D a → isB L n D a u → 1 ≤ b → b ≤ D → 0 ≤ v → v < sW n D b → isB L n D b v → ¬ opn n D a u b v
/-- with one word of the base all others; those of less letters than b, and of b those ahead of v -/
def cl1 (L : Int → Int) (n D a u b v : Int) : Prop := ∀ b' v', 1 ≤ b' → b' ≤ D → 0 ≤ v' → v' < sW n D b' → (b' < b ∨ (b' = b ∧ v' < v)) → isB L n D b' v' → ¬ opn n D a u b' v'
def cl2 (L : Int → Int) (n D a u : Int) : Prop := ∀ a' u', 1 ≤ a' → a' ≤ D → 0 ≤ u' → u' < sW n D a' → (a' < a ∨ (a' = a ∧ u' < u)) → isB L n D a' u' → ∀ b v, 1 ≤ b → b ≤ D → 0 ≤ v → v < sW n D b → isB L n D b v → ¬ opn n D a' u' b v
section CLS
variable {L : Int → Int} {n D a u b v : Int}
theorem cl1_0 : cl1 L n D a u 1 0 := fun b' v' h1 _ h3 _ h5 => by omega
theorem cl1_v (h : cl1 L n D a u b v) (hx : isB L n D b v → ¬ opn n D a u b v) : cl1 L n D a u b (v + 1) := fun b' v' h1 h2 h3 h4 h5 h6 => by
  by_cases e : b' = b ∧ v' = v
  · rw [e.1, e.2] at h6 ⊢; exact hx h6
  · exact h b' v' h1 h2 h3 h4 (by omega) h6
theorem cl1_b (h : cl1 L n D a u b v) (hv : sW n D b ≤ v) : cl1 L n D a u (b + 1) 0 := fun b' v' h1 h2 h3 h4 h5 h6 => by
  refine h b' v' h1 h2 h3 h4 ?_ h6
  by_cases e : b' = b
  · rw [e] at h4; omega
  · omega
theorem cl1_e (h : cl1 L n D a u b v) (hb : D < b) : ∀ b' v', 1 ≤ b' → b' ≤ D → 0 ≤ v' → v' < sW n D b' → isB L n D b' v' → ¬ opn n D a u b' v' := fun b' v' h1 h2 h3 h4 h6 => h b' v' h1 h2 h3 h4 (by omega) h6
theorem cl2_0 : cl2 L n D 1 0 := fun a' u' h1 _ h3 _ h5 => by omega
theorem cl2_u (h : cl2 L n D a u) (hx : isB L n D a u → ∀ b v, 1 ≤ b → b ≤ D → 0 ≤ v → v < sW n D b → isB L n D b v → ¬ opn n D a u b v) : cl2 L n D a (u + 1) := fun a' u' h1 h2 h3 h4 h5 h6 => by
  by_cases e : a' = a ∧ u' = u
  · rw [e.1, e.2] at h6 ⊢; exact hx h6
  · exact h a' u' h1 h2 h3 h4 (by omega) h6
theorem cl2_a (h : cl2 L n D a u) (hu : sW n D a ≤ u) : cl2 L n D (a + 1) 0 := fun a' u' h1 h2 h3 h4 h5 h6 => by
  refine h a' u' h1 h2 h3 h4 ?_ h6
  by_cases e : a' = a
  · rw [e] at h4; omega
  · omega
theorem cl2_e (h : cl2 L n D a u) (ha : D < a) : cls L n D := fun a' u' b v h1 h2 h3 h4 h6 h7 h8 h9 h10 h11 => h a' u' h1 h2 h3 h4 (by omega) h6 b v h7 h8 h9 h10 h11
theorem cl_no (ha : 1 ≤ a ∧ a ≤ D) (hu : 0 ≤ u ∧ u < sW n D a) (h1 : isB L n D a u) (hb : 1 ≤ b ∧ b ≤ D) (hv : 0 ≤ v ∧ v < sW n D b) (h2 : isB L n D b v) (ho : opn n D a u b v) : ¬ cls L n D := fun h => h a u b v ha.1 ha.2 hu.1 hu.2 h1 hb.1 hb.2 hv.1 hv.2 h2 ho
end CLS
theorem nq_step {l : Int → Int} {i m q : Int} (h : (q = 1 ∧ ∀ j, 0 ≤ j → j < i → l j = 0 ∨ l j = 2) ∨ (q = 0 ∧ ∃ j, 0 ≤ j ∧ j < m ∧ ¬ (l j = 0 ∨ l j = 2))) (hi : l i = 0 ∨ l i = 2) : (q = 1 ∧ ∀ j, 0 ≤ j → j < i + 1 → l j = 0 ∨ l j = 2) ∨ (q = 0 ∧ ∃ j, 0 ≤ j ∧ j < m ∧ ¬ (l j = 0 ∨ l j = 2)) := by
  rcases h with ⟨h7, h8⟩ | h7
  · refine .inl ⟨h7, fun j h5 h6 => ?_⟩
    by_cases c : j = i
    · rw [c]; exact hi
    · exact h8 j h5 (by omega)
  · exact .inr h7
theorem nq_y {l : Int → Int} {i m q : Int} (h : (q = 1 ∧ ∀ j, 0 ≤ j → j < i → l j = 0 ∨ l j = 2) ∨ (q = 0 ∧ ∃ j, 0 ≤ j ∧ j < m ∧ ¬ (l j = 0 ∨ l j = 2))) (hq : ¬ q = 0) (hi : m ≤ i) : ∀ j, 0 ≤ j → j < m → l j = 0 ∨ l j = 2 := by
  rcases h with ⟨_, h8⟩ | ⟨h7, _⟩
  · exact fun j a b => h8 j a (by omega)
  · exact absurd h7 hq
theorem nq_n {l : Int → Int} {i m q : Int} (h : (q = 1 ∧ ∀ j, 0 ≤ j → j < i → l j = 0 ∨ l j = 2) ∨ (q = 0 ∧ ∃ j, 0 ≤ j ∧ j < m ∧ ¬ (l j = 0 ∨ l j = 2))) (hq : q = 0) : ¬ ∀ j, 0 ≤ j → j < m → l j = 0 ∨ l j = 2 := by
  rcases h with ⟨h7, _⟩ | ⟨_, j, a, b, c⟩
  · omega
  · exact fun g => c (g j a b)
def nqS (l : Int → Int) (m i q : Int) : Prop := (q = 1 ∧ ∀ j, 0 ≤ j → j < i → l j = 0 ∨ l j = 2) ∨ (q = 0 ∧ ∃ j, 0 ≤ j ∧ j < m ∧ ¬ (l j = 0 ∨ l j = 2))
theorem nqS_0 {l : Int → Int} {m : Int} : nqS l m 0 1 := .inl ⟨rfl, fun j _ _ => by omega⟩
theorem nqS_01 {l : Int → Int} {m i q : Int} (h : nqS l m i q) : q = 0 ∨ q = 1 := by
  rcases h with h | h
  · exact .inr h.1
  · exact .inl h.1
theorem nqS_bad {l : Int → Int} {m i j : Int} (h0 : 0 ≤ i) (h1 : i < m) (h2 : ¬ l i = 0) (h3 : ¬ l i = 2) : nqS l m j 0 := .inr ⟨rfl, i, h0, h1, fun g => by omega⟩
theorem cl1_sh {L : Int → Int} {n D a u b v : Int} (h : cl1 L n D a u b v) (hv : 0 ≤ v ∧ v ≤ sW n D b) (hs : a + b ≤ D) : cl1 L n D a u (b + 1) 0 := fun b' v' h1 h2 h3 h4 h5 h6 => by
  by_cases e : b' = b
  · rintro ⟨o, o1, o2, o3, o4, -⟩
    omega
  · exact h b' v' h1 h2 h3 h4 (by omega) h6
