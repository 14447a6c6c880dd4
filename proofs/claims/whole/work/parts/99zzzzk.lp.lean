/-! a law told (reference) -/
def smF (K V : Int → Int) (lm fr e C0 C : Int) (CO CI : Int → Int) : Prop := okK lm CO CI C0 (C - C0).toNat ∧ dKn CO C0 (C - C0).toNat = 1 ∧ ∀ m n D p, enD K m fr = e → sOk n D p → (∀ j, fr ≤ j → j < e → K j = 5 → 0 ≤ V j ∧ V j < n) → ∃ q, wkN n D p CO CI C0 (C - C0).toNat = [q] ∧ ∀ x, 0 ≤ x → x < sS n D (D + 1) → q x = evV n D p K V m fr x
theorem smF_c {K V : Int → Int} {lm fr e C0 C C1 : Int} {CO CI CO' CI' : Int → Int} (h : smF K V lm fr e C0 C CO CI) (hC : C0 ≤ C) (hC1 : C ≤ C1) (g : cuQ C1 CO CI CO' CI') : smF K V lm fr e C0 C CO' CI' := by
  have q : ∀ k : Nat, (k : Int) ≤ C - C0 → ∀ j : Int, C0 ≤ j → j < C0 + k → CO j = CO' j ∧ CI j = CI' j := fun k hk j a b => ⟨(g j (by omega)).1.symm, (g j (by omega)).2.symm⟩
  refine ⟨fun k hk => ?_, ?_, fun m n D p e1 hO hv => ?_⟩
  · rw [← (q (k + 1) (by omega) (C0 + k) (by omega) (by omega)).1, ← (q (k + 1) (by omega) (C0 + k) (by omega) (by omega)).2, ← dKn_c k (fun j a b => (q k (by omega) j a b).1)]
    exact h.1 k hk
  · rw [← dKn_c _ (fun j a b => (q (C - C0).toNat (by omega) j a b).1)]
    exact h.2.1
  · rw [← wkN_c _ (q (C - C0).toNat (by omega))]
    exact h.2.2 m n D p e1 hO hv
def smK (K : Int → Int) (fr e : Int) : Prop := fr < e ∧ ∀ j, fr ≤ j → j < e → K j = 5 ∨ K j = 6 ∨ K j = 9 ∨ K j = 10 ∨ K j = 11 ∨ K j = 12
/-- a law's record: its token, where its code stands, how long it is -/
def lwM (K V : Int → Int) (lm W : Int) (CO CI : Int → Int) (tk t lf mid to lg : Int) : Prop := (0 ≤ lf ∧ lf ≤ to ∧ to ≤ 850 ∧ 0 ≤ lg ∧ lg ≤ 400) ∧ K tk = 4 ∧ ∃ e, smK K (tk + 1) e ∧ ((K e = 7 ∧ t = e + 1 ∧ mid = -1 ∧ (∀ m, enD K m (tk + 1) = e → lg = lgV K m (tk + 1)) ∧ (W = 0 → smF K V lm (tk + 1) e lf to CO CI)) ∨ (K e = 8 ∧ (lf ≤ mid ∧ mid ≤ to) ∧ ∃ e2, smK K (e + 1) e2 ∧ K e2 = 7 ∧ t = e2 + 1 ∧ (∀ m, enD K m (tk + 1) = e → enD K m (e + 1) = e2 → lg = max (lgV K m (tk + 1)) (lgV K m (e + 1))) ∧ (W = 0 → smF K V lm (tk + 1) e lf mid CO CI ∧ smF K V lm (e + 1) e2 mid to CO CI)))
section LAWR
variable {al N lm C0 C1 C2 t tk e e2 F FP t' F' FP' o o' C C' W W' W0 P0 P P' fr W1 P1 W2 P2 lg : Int} {b V NM BE BE1 BE2 CO CI CO1 CI1 CO2 CI2 : Int → Int} {rest : Int × Int × Int} {s0 s : aS}
theorem su_x {A1 A2 A3 A4 A5 A7 A8 : Prop} (hm : mO al b N s0 t F FP) (h : (¬ F = 0 ∧ A1 ∧ A2 ∧ A3 ∧ A4 ∧ A5 ∧ C' = C ∧ A7 ∧ A8 ∧ o' = o ∧ t' = t ∧ F' = F ∧ FP' = FP ∧ W' = W ∧ P' = P) ∨ (F = 0 ∧ smP al b N V NM lm fr C0 rest W0 P0 t' F' FP' o' BE C' CO CI W' P')) : mO al b N (6, 0, rest) t' F' FP' ∧ (F' = 0 → F = 0 ∧ o' = 0 ∧ (C0 ≤ C' ∧ C' ≤ 850) ∧ (0 ≤ W' ∧ W' ≤ 5) ∧ wU b N NM lm fr t' W0 P0 W' P' ∧ (¬ W' = 0 → 0 ≤ P' ∧ P' < pM b N t') ∧ smE al b N V lm fr C0 rest t' BE C' CO CI W') := by
  rcases h with ⟨f, _, _, _, _, _, _, _, _, _, rfl, rfl, rfl, _, _⟩ | ⟨f, _, hc, g⟩
  · exact ⟨mo_re hm f, fun q => absurd q f⟩
  · rcases g with ⟨f1, s, k⟩ | ⟨f1, ho, hU, hP, hE⟩
    · exact ⟨mo_re k f1, fun q => absurd q f1⟩
    · exact ⟨⟨hE.1.2, .inl ⟨f1, hE.1.1⟩⟩, fun _ => ⟨f, ho, ⟨hc.1, hc.2.1⟩, hc.2.2, hU, hP, hE⟩⟩
theorem gO_6f (hal : al = 0) {k : Int} (hn : ¬ (k = 5 ∨ k = 9 ∨ k = 10 ∨ k = 11)) (h8 : k = 8 → rest.2.2 = 0) : gO al (6, 0, rest) k = if k = 7 then some (0, 0, rest) else none := by
  rw [gO_6 rfl]
  unfold tG
  by_cases c7 : k = 7
  · rw [if_neg (by omega), if_neg (by omega), if_neg (by omega), if_pos c7, if_pos ⟨rfl, hal⟩, if_pos c7]
  · rw [if_neg (by omega), if_neg c7]
    by_cases c12 : k = 12
    · rw [if_pos c12, if_neg (by dsimp only; decide), if_neg c7]
    · rw [if_neg c12]
      by_cases c8 : k = 8
      · rw [if_pos c8, if_neg (fun q => q.2.2 (h8 c8)), if_neg c7]
      · rw [if_neg c8, if_neg c7]
        exact fB_n (by omega)
theorem gO_6g (hal : al = 0) (h : rest.2.2 = 1) : gO al (6, 0, rest) 8 = some (4, 0, rest.1, rest.2.1, 0) := by
  rw [gO_6 rfl]
  unfold tG
  rw [if_neg (by decide), if_neg (by decide), if_pos rfl, if_pos ⟨rfl, hal, by dsimp only; omega⟩]
theorem mu_c {k0 : Int} {s2 : aS} (hk : 1 ≤ k0 ∧ k0 ≤ 12) (hgo : tp b N t.toNat < N → gO al s (kK b N t) = if kK b N t = k0 then some s2 else none) (hw : ¬ whl al s) (h : ¬ kM b N t = mkM k0) : (N ≤ tp b N t.toNat ∧ ¬ whl al s) ∨ (tp b N t.toNat < N ∧ gO al s (kK b N t) = none) := by
  by_cases c : N ≤ tp b N t.toNat
  · exact .inl ⟨c, hw⟩
  · refine .inr ⟨by omega, ?_⟩
    rw [hgo (by omega), if_neg]
    intro e
    exact h ((kM_is hk).mpr ⟨by omega, e⟩)
theorem wU_c (h : wU b N NM lm fr t W0 P0 W1 P1) (g : wU b N NM lm t t' W1 P1 W2 P2) (hf : fr ≤ t) (ht : t ≤ t') : wU b N NM lm fr t' W0 P0 W2 P2 := by
  rcases h with ⟨a, b1, c⟩ | ⟨a, b1, c⟩ | ⟨a, b1, i, c⟩
  · rcases g with ⟨d, e, f⟩ | ⟨d, _⟩ | ⟨d, _⟩
    · exact .inl ⟨a, by omega, by omega⟩
    · omega
    · omega
  · rcases g with ⟨d, e, f⟩ | ⟨d, e, f⟩ | ⟨d, e, i, f1, f2, f3, f4, f5⟩
    · omega
    · exact .inr (.inl ⟨a, e, fun j j0 j1 k => by
        rcases Int.lt_or_le j t with q | q
        · exact c j j0 q k
        · exact f j q j1 k⟩)
    · exact .inr (.inr ⟨a, e, i, by omega, f2, f3, f4, fun j j0 j1 k => by
        rcases Int.lt_or_le j t with q | q
        · exact c j j0 q k
        · exact f5 j q j1 k⟩)
  · rcases g with ⟨d, e, f⟩ | ⟨d, _⟩ | ⟨d, _⟩
    · exact .inr (.inr ⟨a, by omega, i, by omega, c.2.1, c.2.2.1, by omega, c.2.2.2.2⟩)
    · omega
    · omega
theorem sm_F (h : smE al b N V lm fr C0 rest t BE C CO CI 0) : smF (kK b N) V lm fr t C0 C CO CI := ⟨(h.2.2.2.2.2.2.2.1 rfl).1, (h.2.2.2.2.2.2.2.1 rfl).2, h.2.2.2.2.2.2.2.2 rfl⟩
theorem law_a (h : smE al b N V lm fr C0 rest e BE C CO CI W) (hC : 0 ≤ C0 ∧ C0 ≤ C ∧ C ≤ 850) (hf : fr = tk + 1) (h4 : kK b N tk = 4) (h7 : kK b N e = 7) (ht : t = e + 1) (hl : lg = BE 0) : lwM (kK b N) V lm W CO CI tk t C0 (-1) C lg := by
  subst hf
  refine ⟨⟨hC.1, hC.2.1, hC.2.2, by rw [hl]; exact h.2.2.2.2.2.1⟩, h4, e, ⟨h.2.1, h.2.2.1⟩, .inl ⟨h7, ht, rfl, fun m q => by rw [hl]; exact h.2.2.2.2.1 m q, fun w => ?_⟩⟩
  subst w
  exact sm_F h
theorem law_b (h : smE al b N V lm fr C0 rest e BE1 C1 CO1 CI1 W1) (g : smE al b N V lm (e + 1) C1 s.2.2 e2 BE2 C2 CO2 CI2 W2) (hC : 0 ≤ C0 ∧ C0 ≤ C1 ∧ C1 ≤ C2 ∧ C2 ≤ 850) (hf : fr = tk + 1) (h4 : kK b N tk = 4) (h8 : kK b N e = 8) (h7 : kK b N e2 = 7) (ht : t = e2 + 1) (hc : cuQ C1 CO1 CI1 CO2 CI2) (hW : W2 = 0 → W1 = 0) (hl : (BE2 0 ≤ BE1 0 ∧ lg = BE1 0) ∨ (BE1 0 < BE2 0 ∧ lg = BE2 0)) : lwM (kK b N) V lm W2 CO2 CI2 tk t C0 C1 C2 lg := by
  subst hf
  have b1 := h.2.2.2.2.2.1
  have b2 := g.2.2.2.2.2.1
  refine ⟨⟨hC.1, by omega, by omega, by omega, by omega⟩, h4, e, ⟨h.2.1, h.2.2.1⟩, .inr ⟨h8, by omega, e2, ⟨g.2.1, g.2.2.1⟩, h7, ht, fun m q1 q2 => ?_, fun w => ?_⟩⟩
  · rw [← h.2.2.2.2.1 m q1, ← g.2.2.2.2.1 m q2]
    omega
  · have w1 := hW w
    subst w
    rw [w1] at h
    exact ⟨smF_c (sm_F h) hC.2.1 (Int.le_refl _) hc, sm_F g⟩
end LAWR
theorem su_b {F F' : Int} {A1 A2 Q : Prop} {BE0 BE' : Int → Int} (h : (¬ F = 0 ∧ A1 ∧ BE' = BE0 ∧ A2) ∨ (F = 0 ∧ Q)) (h3 : F = 0 → 0 ≤ BE' 0 ∧ BE' 0 ≤ 1000) (h0 : 0 ≤ BE0 0 ∧ BE0 0 ≤ 1000) : 0 ≤ BE' 0 ∧ BE' 0 ≤ 1000 := by
  rcases h with ⟨_, _, rfl, _⟩ | ⟨f, _⟩
  · exact h0
  · exact h3 f
theorem aB_w {s : aS} (h : auB s) (hl : s.2.2.2.1 < 8) : auB (4, s.2.1, s.2.2.1, s.2.2.2.1 + 1, 1) := ⟨by (try dsimp only); omega, h.2.1, h.2.2.1, by have := h.2.2.2.1; (try dsimp only); omega, .inr rfl⟩
theorem aB_w2 {s : aS} (h : auB s) (hl : s.2.2.2.1 < 8) : auB (4, 0, s.2.2.1, s.2.2.2.1 + 1, 0) := ⟨by (try dsimp only); omega, by (try dsimp only); omega, h.2.2.1, by have := h.2.2.2.1; (try dsimp only); omega, .inl rfl⟩
