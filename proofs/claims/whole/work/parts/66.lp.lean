theorem cN_row {fm fs ld sz rw_ rw2 : Int → Int} {n D p R : Int} {LW : Int → (Int → Int) → Prop} (h : cNg fm fs ld sz rw_ n D p LW R) (hr : R97 rw2) : cNg fm fs ld sz rw2 n D p LW R := ⟨h.1, h.2.1, h.2.2.1, hr, h.2.2.2.2⟩
theorem lp_cp {f g : Int → Int} {x : Int} (h : 0 ≤ x ∧ x < 364) : en_cpy f g (0 + 0) (0 + 0) 364 x = f x := by
  have := cpy_at (f := f) (g := g) (S := 0) h
  rwa [show (0 : Int) + x = x by omega] at this
theorem lp_prd {n D p X s q : Int} (hO : sOk n D p) (h : (0 ≤ X ∧ X < p) ∧ mE p X (s + 1 * q)) (hs : s = 0) : X = q % p := by
  rw [hs, Int.zero_add, Int.one_mul] at h
  have hp := hO.2.2.2.1
  exact mE_eq h.1 ⟨Int.emod_nonneg _ (by omega), Int.emod_lt_of_pos _ (by omega)⟩ (mE_trans h.2 (mE_symm (mE_emod p _)))
theorem lp_tl2 {n D : Int} {P F : Int → Int} (h : (¬ (if sG P (sS n D (D + 1)).toNat = -1 then -1 else sL n D (sG P (sS n D (D + 1)).toNat)) = -1 ∧ ¬ (if sG F (sS n D (D + 1)).toNat = -1 then -1 else sL n D (sG F (sS n D (D + 1)).toNat)) = -1) ∧ D < (if sG P (sS n D (D + 1)).toNat = -1 then -1 else sL n D (sG P (sS n D (D + 1)).toNat)) + (if sG F (sS n D (D + 1)).toNat = -1 then -1 else sL n D (sG F (sS n D (D + 1)).toNat))) : D < tpR n D P + tpR n D F := by
  obtain ⟨⟨h1, h2⟩, h3⟩ := h
  have e1 : ¬ sG P (sS n D (D + 1)).toNat = -1 := fun e => h1 (if_pos e)
  have e2 : ¬ sG F (sS n D (D + 1)).toNat = -1 := fun e => h2 (if_pos e)
  rw [if_neg e1, if_neg e2] at h3
  exact h3
theorem sL_neg1 {n D p : Int} (hO : sOk n D p) : sL n D (-1) = 0 := sL_eq hO.1.1 hO.2.1.2 (Int.le_refl 0) (by have := hO.2.1.1; omega) (.inl rfl) (.inr (by have := sS_nn (D := D) (k := 0 + 1) hO.1.1; omega))
theorem tl_no {n D p : Int} {P F : Int → Int} (hO : sOk n D p) (hP : 0 ≤ sG P (sS n D (D + 1)).toNat) (h : ¬ ((¬ (if sG P (sS n D (D + 1)).toNat = -1 then -1 else sL n D (sG P (sS n D (D + 1)).toNat)) = -1 ∧ ¬ (if sG F (sS n D (D + 1)).toNat = -1 then -1 else sL n D (sG F (sS n D (D + 1)).toNat)) = -1) ∧ D < (if sG P (sS n D (D + 1)).toNat = -1 then -1 else sL n D (sG P (sS n D (D + 1)).toNat)) + (if sG F (sS n D (D + 1)).toNat = -1 then -1 else sL n D (sG F (sS n D (D + 1)).toNat)))) : tpR n D P + tpR n D F ≤ D := by
  have e1 : ¬ sG P (sS n D (D + 1)).toNat = -1 := by omega
  have hb := sG_bb (f := P) hO
  have hw := sL_w hO hP hb.2
  unfold tpR
  by_cases e2 : sG F (sS n D (D + 1)).toNat = -1
  · rw [e2, sL_neg1 hO]; omega
  · rw [if_neg e1, if_neg e2] at h
    have h2 := sL_b n D (sG F (sS n D (D + 1)).toNat)
    omega
theorem lp_next {n D p k : Int} {LW : Int → (Int → Int) → Prop} {F B B' : Int → Int} (hk : 1 ≤ k ∧ k ≤ 7) (hz : ¬ zrR n D B) (ht : tpR n D B + tpR n D F ≤ D) (h7 : ∀ r, pwr n D p LW F ((7 - k).toNat + 1) k B r → pwr n D p LW F 7 1 F r) (hn : nfR n D p LW (fun x => prd n D B F x % p) B') : (k + 1 ≤ 7 ∧ ∀ r, pwr n D p LW F (8 - (k + 1)).toNat (k + 1) B' r → pwr n D p LW F 7 1 F r) ∨ (k + 1 = 8 ∧ pwr n D p LW F 7 1 F (-2)) := by
  by_cases c : k = 7
  · exact .inr ⟨by omega, h7 _ (.inr (.inl ⟨hz, .inl (by omega), rfl⟩))⟩
  · refine .inl ⟨by omega, fun r hr => h7 r (.inr (.inr ⟨hz, by omega, ht, B', hn, ?_⟩))⟩
    rwa [show (8 - (k + 1)).toNat = (7 - k).toNat by omega] at hr
