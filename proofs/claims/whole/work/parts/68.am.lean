/-! products in the model: what is made, word by word, out of nothing -/
def apM (n D p : Int) (old a b X : Int → Int) (u v : Int) : Prop := apI n D p 1 (seg old 0 400 (fun _ => 0)) a b X u v
theorem am_0 {n D p : Int} {old a b X : Int → Int} (hO : sOk n D p) (hX : X = seg old 0 400 (fun _ => 0)) : apM n D p old a b X 0 0 := by
  have hA := sS_b (k := D + 1) hO
  have hp := hO.2.2.2.1
  rw [hX]
  refine ap_0 (fun x h0 h1 => ?_)
  have : seg old 0 400 (fun _ => (0 : Int)) x = 0 := seg_in0 (g := fun _ => 0) (by omega)
  omega
theorem am_row {n D p u v : Int} {old a b X : Int → Int} (h : apM n D p old a b X u v) (hu : 0 ≤ u) (hv : 0 ≤ v ∧ v ≤ sS n D (D + 1)) (hz : ∀ w, v ≤ w → w < sS n D (D + 1) → ∀ x, mE p (1 * pTm n D a b u w x) 0) : apM n D p old a b X (u + 1) 0 := ap_row h hu hv hz
theorem am_skip {n D p u v : Int} {old a b X : Int → Int} (h : apM n D p old a b X u v) (hv : 0 ≤ v) (hz : ∀ x, mE p (1 * pTm n D a b u v x) 0) : apM n D p old a b X u (v + 1) := ap_skip h hv hz
theorem am_hit {n D p u v c : Int} {old a b X : Int → Int} (hO : sOk n D p) (h : apM n D p old a b X u v) (hu : 0 ≤ u ∧ u < sS n D (D + 1)) (hv : 0 ≤ v ∧ v < sS n D (D + 1)) (hL : sL n D u + sL n D v ≤ D) (hc : mE p c (1 * a u)) : apM n D p old a b (up X (bAt n D u v) ((X (bAt n D u v) + c * b v) % p)) u (v + 1) := ap_hit hO (by have := hO.2.2.2.1; omega) h hu hv hL hc
theorem am_ch {n D p u v c i y y' : Int} {old a b X : Int → Int} (h : apM n D p old a b (up X i ((X i + c * y) % p)) u v) (e : y = y') : apM n D p old a b (up X i ((c * y' + X i) % p)) u v := by
  rw [← e, Int.add_comm (c * y)]; exact h
theorem am_fin {n D p u : Int} {old a b X : Int → Int} (hO : sOk n D p) (h : apM n D p old a b X u 0) (ho : R97 old) (hu : u = sS n D (D + 1)) : (∀ x, 0 ≤ x → x < sS n D (D + 1) → X x = prd n D a b x % p) ∧ (∀ x, sS n D (D + 1) ≤ x → x < 400 → X x = 0) ∧ R97 X := by
  have hA := sS_b (k := D + 1) hO
  have hp := hO.2.2.2.1
  obtain ⟨h1, h2⟩ := ap_fin h hu
  refine ⟨fun x g0 g1 => lp_prd hO (h1 x g0 g1) (seg_in0 (g := fun _ => 0) (by omega)), fun x g0 g1 => (h2 x (by omega)).trans (seg_in0 (g := fun _ => 0) (by omega)), ?_⟩
  exact mi_97 hO (R97_seg ho (fun _ _ _ => by decide)) (fun x g0 g1 => (h1 x g0 g1).1) h2
