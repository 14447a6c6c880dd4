/-! the model's whole work of one length, put together -/
theorem seg_in0' {f : Int → Int} {o m x v : Int} (h : o ≤ x ∧ x < o + m) : seg f o m (fun _ => v) x = v := by
  unfold seg
  rw [if_pos h]
theorem fl_0 {rs rw_ ld sz : Int → Int} {q n D p v : Int} {LW : Int → (Int → Int) → Prop} (hO : sOk n D p) (h1 : rs (9 * q + 0) = sQ n D 0) (h2 : ld (400 * q + sS n D 0 + 0) = 0) (hv : v = 1) : mNd rs rw_ ld (up sz (9 * q) v) q n D p LW 0 := by
  have hD := hO.2.1.1
  have e : sW n D 0 = 1 := sW_0 (by omega)
  refine ⟨h1, ?_, ?_⟩
  · rw [e]
    exact mD_0 h2
  · rw [e, show 9 * q + 0 = 9 * q by omega, up_eq, hv]
    show (1 : Int) = 0 + (if ld (400 * q + sS n D 0 + 0) = 0 then 1 else 0)
    rw [if_pos h2]; rfl
theorem fl_fin {n D p q d : Int} {LW : Int → (Int → Int) → Prop} {E : (Int → Int) → Prop} {Y Z Y1 Z1 : Int → Int} (hO : sOk n D p) (hd : 1 ≤ d ∧ d ≤ D) (h1 : mD p (sW n D (d - 1)) (nV n D p LW (d - 1).toNat) (fun k x => Y (70000 * q + sQ n D (d - 1) + k * sW n D (d - 1) + x)) (fun x => Z (400 * q + sS n D (d - 1) + x)))
    (hC : mD p (sW n D d) E (fun k x => Y1 (70000 * q + sQ n D d + k * sW n D d + x)) (fun x => Z1 (400 * q + sS n D d + x))) (hdone : ∀ u, 0 ≤ u → u < sW n D (d - 1) → Z (400 * q + sS n D (d - 1) + u) = 1 → ∀ x, 0 ≤ x → x < n → E (xl (sW n D (d - 1)) x (fun j => Y (70000 * q + sQ n D (d - 1) + u * sW n D (d - 1) + j))) ∧ E (xr n x (fun j => Y (70000 * q + sQ n D (d - 1) + u * sW n D (d - 1) + j)))) (hD : ∀ r, LW d r → E r) (hA : ∀ v, E v → nV n D p LW d.toNat v) :
    mD p (sW n D d) (nV n D p LW d.toNat) (fun k x => Y1 (70000 * q + sQ n D d + k * sW n D d + x)) (fun x => Z1 (400 * q + sS n D d + x)) := by
  have e := nV_modelI hO hO.2.2.2 hd h1 (mD_sub hC) hdone hD hA
  rw [← e]; exact hC
