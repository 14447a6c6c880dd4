/-! a fault of a statement told -/
def wrQ (bad : Prop) (W0 P0 c pl W P : Int) : Prop := (¬ W0 = 0 ∧ W = W0 ∧ P = P0) ∨ (W0 = 0 ∧ ¬ bad ∧ W = 0 ∧ P = P0) ∨ (W0 = 0 ∧ bad ∧ W = c ∧ P = pl)
theorem wr_0 {bad : Prop} {W0 P0 c pl : Int} (h : ¬ bad) : wrQ bad W0 P0 c pl W0 P0 := by
  by_cases q : W0 = 0
  · exact .inr (.inl ⟨q, h, q, rfl⟩)
  · exact .inl ⟨q, rfl, rfl⟩
theorem wr_1 {bad : Prop} {W0 P0 c pl W P : Int} (h : bad) (hP : ¬ W0 = 0 → P0 < pl) (f2 : W0 = 0 → W = c ∧ P = pl) (f3 : ¬ W0 = 0 → (P0 < pl ∨ (P0 = pl ∧ W0 ≤ c)) → W = W0 ∧ P = P0) : wrQ bad W0 P0 c pl W P := by
  by_cases q : W0 = 0
  · exact .inr (.inr ⟨q, h, (f2 q).1, (f2 q).2⟩)
  · exact .inl ⟨q, (f3 q (.inl (hP q))).1, (f3 q (.inl (hP q))).2⟩
theorem aB_p {s : aS} {x : Int} (h : auB s) (hx : 0 ≤ x ∧ x ≤ 6) : auB (x, s.2) := aB_d h hx
theorem kM_x {b : Int → Int} {N t k0 : Int} (hk : 1 ≤ k0 ∧ k0 ≤ 12) (h : kM b N t = mkM k0) : kK b N t = k0 := ((kM_is hk).mp h).2
theorem kM_4 {b : Int → Int} {N t : Int} (h : ¬ kM b N t = 20) (h2 : ¬ kM b N t = 21) (h3 : ¬ kM b N t = 22) (h4 : ¬ kM b N t = 23) (hl : tp b N t.toNat < N) : ¬ (kK b N t = 1 ∨ kK b N t = 2 ∨ kK b N t = 3 ∨ kK b N t = 4) := by
  rintro (q | q | q | q)
  · exact h ((kM_is (k0 := 1) (by decide)).mpr ⟨hl, q⟩)
  · exact h2 ((kM_is (k0 := 2) (by decide)).mpr ⟨hl, q⟩)
  · exact h3 ((kM_is (k0 := 3) (by decide)).mpr ⟨hl, q⟩)
  · exact h4 ((kM_is (k0 := 4) (by decide)).mpr ⟨hl, q⟩)
/-- outside of a side nothing changes -/
def rdU (si : Int) (LE NO PR DG LW LE' NO' PR' DG' LW' : Int → Int) : Prop := (∀ x, ¬ x = si → LE' x = LE x ∧ PR' x = PR x ∧ DG' x = DG x ∧ LW' x = LW x) ∧ ∀ x, ¬ (4 * si ≤ x ∧ x < 4 * si + 4) → NO' x = NO x
theorem rdU_t {si : Int} {LE NO PR DG LW LE1 NO1 PR1 DG1 LW1 LE2 NO2 PR2 DG2 LW2 : Int → Int} (h : rdU si LE NO PR DG LW LE1 NO1 PR1 DG1 LW1) (g : rdU si LE1 NO1 PR1 DG1 LW1 LE2 NO2 PR2 DG2 LW2) : rdU si LE NO PR DG LW LE2 NO2 PR2 DG2 LW2 := ⟨fun x a => ⟨(g.1 x a).1.trans (h.1 x a).1, (g.1 x a).2.1.trans (h.1 x a).2.1, (g.1 x a).2.2.1.trans (h.1 x a).2.2.1, (g.1 x a).2.2.2.trans (h.1 x a).2.2.2⟩, fun x a => (g.2 x a).trans (h.2 x a)⟩
