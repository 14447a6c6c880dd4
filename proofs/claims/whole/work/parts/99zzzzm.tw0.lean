theorem sm_C {al N lm fr C0 t C W : Int} {b V BE CO CI : Int → Int} {rest : Int × Int × Int} (h : smE al b N V lm fr C0 rest t BE C CO CI W) : (0 ≤ BE 0 ∧ BE 0 ≤ 400) ∧ (C0 ≤ C ∧ C ≤ C0 + 2 * (t - fr) + 1) ∧ fr < t ∧ (tp b N t.toNat < N → ¬ (kK b N t = 5 ∨ kK b N t = 9 ∨ kK b N t = 10 ∨ kK b N t = 11)) := ⟨h.2.2.2.2.2.1, h.2.2.2.2.2.2.1, h.2.1, h.2.2.2.1⟩
theorem aB_r {s : aS} {e : Int} (h : auB s) (hl : s.2.2.2.1 < 8) (he : e = 0 ∨ e = 1) : auB (0, 0, s.2.2.1, s.2.2.2.1 + 1, e) := ⟨by (try dsimp only); omega, by (try dsimp only); omega, h.2.2.1, by have := h.2.2.2.1; (try dsimp only); omega, he⟩
theorem wU_z {b NM : Int → Int} {N lm fr t W0 P0 W P : Int} (h : wU b N NM lm fr t W0 P0 W P) (w : W = 0) : W0 = 0 := by
  rcases h with h | h | h
  · omega
  · exact h.1
  · exact h.1
theorem cu_c {C0 C1 : Int} {CO CI CO1 CI1 CO2 CI2 : Int → Int} (h : cuQ C0 CO CI CO1 CI1) (g : cuQ C1 CO1 CI1 CO2 CI2) (hC : C0 ≤ C1) : cuQ C0 CO CI CO2 CI2 := fun x a => ⟨(g x (by omega)).1.trans (h x a).1, (g x (by omega)).2.trans (h x a).2⟩
theorem c0_up {C t t' : Int} (h : 0 ≤ C ∧ C ≤ 2 * t) (e : t' = t + 1) : 0 ≤ C ∧ C ≤ 2 * t' := by omega
theorem c1_up {C0 C t0 fr t : Int} (h : 0 ≤ C0 ∧ C0 ≤ 2 * t0) (e : fr = t0 + 1) (g : C0 ≤ C ∧ C ≤ C0 + 2 * (t - fr) + 1) : 0 ≤ C ∧ C ≤ 2 * t := by omega
theorem wp_up {P t t' N : Int} {b : Int → Int} (h : 0 ≤ P ∧ P < pM b N t) (g : pM b N t < pM b N (t + 1)) (e : t' = t + 1) : 0 ≤ P ∧ P < pM b N t' := by
  rw [e]
  omega
theorem mo_kb {x t N : Int} {b : Int → Int} (h : x = kM b N t) : 0 ≤ x ∧ x ≤ 23 := by
  rw [h]
  exact kM_b b N t
theorem gO_8 {al k : Int} {s : aS} {x : Option aS} (e : k = 8) (h : gO al s 8 = x) : gO al s k = x := by
  rw [e]
  exact h
