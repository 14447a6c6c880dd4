/-! the leading words, told by what is nought -/
def ldOk (L : Int → Int) (n D p : Int) (LW : Int → (Int → Int) → Prop) : Prop := R01 L ∧ ∀ d w, 0 ≤ d → d ≤ D → 0 ≤ w → w < sW n D d → (L (sS n D d + w) = 1 ↔ hasTop p (sW n D d) (nV n D p LW d.toNat) w)
theorem cNg_L {fm fs ld sz rw_ L : Int → Int} {n D p R : Int} {LW : Int → (Int → Int) → Prop} (hO : sOk n D p) (h : cNg fm fs ld sz rw_ n D p LW R) (hL : ldOk L n D p LW) : ∀ x, 0 ≤ x → x < sS n D (R + 1) → ld x = L x := by
  intro x h0 hx
  have hm := sS_mono (D := D) hO.1.1 (show R + 1 ≤ D + 1 by have := h.1.2; omega)
  obtain ⟨d, w, a1, a2, a3, a4, a5⟩ := sL_ex hO h0 (show x < sS n D (D + 1) by omega)
  have hdR : d ≤ R := by
    rcases Int.lt_or_le R d with g | g
    · have := sS_mono (D := D) hO.1.1 (show R + 1 ≤ d by omega)
      omega
    · exact g
  have hc := (h.2.2.2.2.2 d a1 hdR).2.2.1
  have e1 := cD_top hc a3 a4 hO.2.2.2.1
  have e2 := hL.2 d w a1 a2 a3 a4
  have g1 := h.2.2.1 (sS n D d + w)
  have g2 := hL.1 (sS n D d + w)
  have e3 : ld (sS n D d + w) = 1 ↔ L (sS n D d + w) = 1 := e1.symm.trans e2.symm
  rw [a5]
  rcases g1 with g1 | g1 <;> rcases g2 with g2 | g2
  · rw [g1, g2]
  · have := e3.mpr g2; omega
  · have := e3.mp g1; omega
  · rw [g1, g2]
theorem mN_L {rs rw_ ld sz : Int → Int} {n D p : Int} {LW : Int → (Int → Int) → Prop} (hO : sOk n D p) (h : mNall rs rw_ ld sz n D p LW) : ldOk ld n D p LW := by
  refine ⟨h.2.2, fun d w a1 a2 a3 a4 => ?_⟩
  have e := mD_top (h.1 d a1 a2).2.1 a3 a4 hO.2.2.2
  have e2 : ld (400 * 0 + sS n D d + w) = 1 ↔ ld (sS n D d + w) = 1 := by rw [show 400 * 0 + sS n D d + w = sS n D d + w by omega]
  exact e2.symm.trans e.symm
/-- how many words of a length are left -/
def szL (L : Int → Int) (n D d : Int) : Int := sm (fun w => if L (sS n D d + w) = 0 then 1 else 0) (sW n D d).toNat
theorem cNg_sz {fm fs ld sz rw_ L : Int → Int} {n D p R d : Int} {LW : Int → (Int → Int) → Prop} (hO : sOk n D p) (h : cNg fm fs ld sz rw_ n D p LW R) (hL : ldOk L n D p LW) (h0 : 0 ≤ d) (hd : d ≤ R) : sz d = szL L n D d := by
  rw [(h.2.2.2.2.2 d h0 hd).2.2.2]
  refine sm_ext _ (fun w a b => ?_)
  have hw := sS_word hO h0 (show 0 ≤ w ∧ w < sW n D d by omega)
  have hm := sS_mono (D := D) hO.1.1 (show d + 1 ≤ R + 1 by omega)
  show (if ld (sS n D d + w) = 0 then 1 else 0) = (if L (sS n D d + w) = 0 then 1 else 0)
  rw [cNg_L hO h hL _ (by omega) (by omega)]
theorem mN_szL {rs rw_ ld sz : Int → Int} {n D p d : Int} {LW : Int → (Int → Int) → Prop} (h : mNall rs rw_ ld sz n D p LW) (h0 : 0 ≤ d) (hd : d ≤ D) : sz d = szL ld n D d := mN_sz (h.1 d h0 hd)
theorem szL_b (L : Int → Int) {n D p d : Int} (hO : sOk n D p) : 0 ≤ szL L n D d ∧ szL L n D d ≤ 256 := by
  have h1 := sm_01 (f := fun w => if L (sS n D d + w) = 0 then 1 else 0) (fun x => by show 0 ≤ (if L (sS n D d + x) = 0 then (1 : Int) else 0) ∧ (if L (sS n D d + x) = 0 then (1 : Int) else 0) ≤ 1; split <;> omega) (sW n D d).toNat
  have h2 := sW_b (k := d) hO
  unfold szL
  omega
theorem cNg_szb {fm fs ld sz rw_ : Int → Int} {n D p R : Int} {LW : Int → (Int → Int) → Prop} (hO : sOk n D p) (h : cNg fm fs ld sz rw_ n D p LW R) : ∀ k, 0 ≤ k → k ≤ R → 0 ≤ sz k ∧ sz k ≤ 256 := fun k h0 h1 => by
  rw [(h.2.2.2.2.2 k h0 h1).2.2.2]
  exact szL_b ld hO
theorem nth_c {f g : Int → Int} (i : Int) : ∀ m : Nat, (∀ x : Int, 0 ≤ x → x < m → f x = g x) → nth f i m = nth g i m
  | 0, _ => rfl
  | m + 1, h => by
    show (if nth f i m = -1 ∧ f m = 1 ∧ sm f m = i then (m : Int) else nth f i m) = (if nth g i m = -1 ∧ g m = 1 ∧ sm g m = i then (m : Int) else nth g i m)
    rw [nth_c i m (fun x a b => h x a (by omega)), h m (by omega) (by omega), sm_ext m (fun x a b => h x a (by omega))]
theorem rch_ge {R R' d D : Int} (h : R' = (if (0 ≤ d ∧ d ≤ D) ∧ R < d then d else R)) (hd : 0 ≤ d ∧ d ≤ D) : d ≤ R' := by
  by_cases c : R < d
  · rw [if_pos ⟨hd, c⟩] at h; omega
  · rw [if_neg (fun g => c g.2)] at h; omega
