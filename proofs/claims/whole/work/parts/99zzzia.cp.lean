/-! rows copied and lessened stay below 97 -/
theorem cp_97 {f L : Int → Int} (h : R97 L) (g : R97 f) : R97 (en_cpy f L (0 + 0) (0 + 0) 364) := by
  rw [cpy_new]
  exact R97_seg h (fun _ _ _ => g _)
theorem md2_97 {p : Int} {T g : Int → Int} (hp : 0 < p ∧ p ≤ 97) (h : R97 T) (_ : R97 g) : R97 (seg T 0 364 (fun x => (T x - g x) % p)) := R97_seg h (fun y _ _ => by have := md_lt (v := T y - g y) hp.1; omega)
theorem lk_e {n D p m i : Int} {K V LG LR : Int → Int} (e : i = m) (h : lkQ n D p K V m LG LR i) : lkQ n D p K V m LG LR m := by rw [e] at h; exact h
theorem ln_e {K : Int → Int} {x m i : Int} (e : i = m) (h : x = cLw K i) : x = cLw K m := by rw [e] at h; exact h
theorem lw_at {i : Int} (h : 0 ≤ i ∧ i ≤ 7) : (r_Telling_lawsR, i * 256) ∈ en_C := by
  have : i = 0 ∨ i = 1 ∨ i = 2 ∨ i = 3 ∨ i = 4 ∨ i = 5 ∨ i = 6 ∨ i = 7 := by omega
  rcases this with rfl | rfl | rfl | rfl | rfl | rfl | rfl | rfl <;> decide
theorem twB_0 {K NU0 NM : Int → Int} {pr dg dp : Int} : twB K NU0 (0, NM, pr, dg, dp, NU0) := by
  refine ⟨by show (0 : Int) ≤ 0 ∧ (0 : Int) ≤ 4; decide, fun j a b => ?_, fun _ _ => rfl⟩
  have b2 : j < 0 := b
  omega
