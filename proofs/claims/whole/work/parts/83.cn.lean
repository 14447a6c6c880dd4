theorem cN_new {fm fs ld sz rw_ : Int → Int} {n D p R : Int} {LW : Int → (Int → Int) → Prop} (hO : sOk n D p) (h1 : R97 fm) (h2 : R01 ld) (h3 : R97 rw_) (h4 : fs 0 = 0) (hR : R = -1) : cNg fm fs ld sz rw_ n D p LW R := by
  have := hO.2.1.1
  exact ⟨by omega, h1, h2, h3, h4, fun d a b => by omega⟩
theorem rch_mo {R R' d D : Int} (h : R' = (if ((0 : Int) ≤ d ∧ d ≤ D) ∧ R < d then d else R)) : R ≤ R' := by
  by_cases c : ((0 : Int) ≤ d ∧ d ≤ D) ∧ R < d
  · rw [if_pos c] at h; omega
  · rw [if_neg c] at h; omega
theorem cN_mo {n D p R R' : Int} {fm fs ld sz rw_ : Int → Int} {LW : Int → (Int → Int) → Prop} (g : cNg fm fs ld sz rw_ n D p LW R') (h : R = D) (hm : R ≤ R') : R' = D := by
  have := g.1.2
  omega
