theorem cN_new {fm fs ld sz rw_ : Int → Int} {n D p R : Int} {LW : Int → (Int → Int) → Prop} (hO : sOk n D p) (h1 : R97 fm) (h2 : R01 ld) (h3 : R97 rw_) (h4 : fs 0 = 0) (hR : R = -1) : cNg fm fs ld sz rw_ n D p LW R := by
  have := hO.2.1.1
  exact ⟨by omega, h1, h2, h3, h4, fun d a b => by omega⟩
