/-! the class's bits of the ways, its circles one by one -/
theorem bL_z {A B : Int → Int} {w : Int} (a b : Int) : bL (up A w 0) (up B w 0) a b = if a = w then false else bL A B a b := by
  unfold bL
  by_cases g : a = w
  · rw [if_pos g, g, up_eq, up_eq, bt_0, bt_0]; split <;> rfl
  · rw [if_neg g, up_ne g, up_ne g]
theorem bL_lo {A B : Int → Int} {w to : Int} (h : 0 ≤ to ∧ to < 64) (a b : Int) (hb : 0 ≤ b ∧ b < 81) : bL (up A w (en_lor (A w) (en_lshl 1 to))) B a b = if a = w ∧ b = to then true else bL A B a b := by
  unfold bL
  by_cases g : a = w
  · rw [g, up_eq]
    by_cases c : b < 64
    · rw [if_pos c, if_pos c, bt_or, bt_shl h ⟨hb.1, c⟩]
      by_cases d : b = to
      · rw [if_pos ⟨rfl, d⟩, decide_eq_true d.symm, Bool.or_true]
      · rw [if_neg (fun q => d q.2), decide_eq_false (fun q => d q.symm), Bool.or_false]
    · rw [if_neg c, if_neg c, if_neg (by omega)]
  · rw [up_ne g, if_neg (show ¬ (a = w ∧ b = to) from fun q => g q.1)]
theorem bL_hi {A B : Int → Int} {w to : Int} (h : 64 ≤ to ∧ to < 81) (a b : Int) (hb : 0 ≤ b ∧ b < 81) : bL A (up B w (en_lor (B w) (en_lshl 1 (to - 64)))) a b = if a = w ∧ b = to then true else bL A B a b := by
  unfold bL
  by_cases g : a = w
  · rw [g, up_eq]
    by_cases c : b < 64
    · rw [if_pos c, if_pos c, if_neg (by omega)]
    · rw [if_neg c, if_neg c, bt_or, bt_shl (by omega) (by omega)]
      by_cases d : b = to
      · rw [if_pos ⟨rfl, d⟩, decide_eq_true (by omega), Bool.or_true]
      · rw [if_neg (fun q => d q.2), decide_eq_false (by omega), Bool.or_false]
  · rw [up_ne g, if_neg (show ¬ (a = w ∧ b = to) from fun q => g q.1)]
theorem bL_or {A B : Int → Int} {w m : Int} (a b : Int) : bL (up A w (en_lor (A w) (A m))) (up B w (en_lor (B w) (B m))) a b = if a = w then (bL A B w b || bL A B m b) else bL A B a b := by
  unfold bL
  by_cases g : a = w
  · rw [if_pos g, g, up_eq, up_eq, bt_or, bt_or]; split <;> rfl
  · rw [if_neg g, up_ne g, up_ne g]
theorem cw_s {L : Int → Int} {n D q w x c : Int} (hx : 0 ≤ x) (h : c = cw L n D q w x.toNat) : c + bI (0 ≤ stp L n D q w x ∧ gT L n D q w (stp L n D q w x) = true ∧ gT L n D q (stp L n D q w x) w = true) = cw L n D q w (x + 1).toNat := by
  unfold cw at h ⊢
  rw [sm_s _ hx, h]
theorem cw_b (L : Int → Int) (n D q w : Int) (m : Nat) : 0 ≤ cw L n D q w m ∧ cw L n D q w m ≤ m := sm_01 (fun x => bI_01' _) m
theorem cw_1 {L : Int → Int} {n D q w x : Int} (hx : 0 ≤ x ∧ x < n) (h0 : 0 ≤ stp L n D q w x) (h : stp L n D q w x = w ∨ gT L n D q (stp L n D q w x) w = true) : bI (0 ≤ stp L n D q w x ∧ gT L n D q w (stp L n D q w x) = true ∧ gT L n D q (stp L n D q w x) w = true) = 1 :=
  bI_t ⟨h0, ((wb_iff hx).mp ⟨by omega, h⟩).2⟩
theorem cw_0 {L : Int → Int} {n D q w x : Int} (h : stp L n D q w x < 0 ∨ ¬ gT L n D q (stp L n D q w x) w = true) : bI (0 ≤ stp L n D q w x ∧ gT L n D q w (stp L n D q w x) = true ∧ gT L n D q (stp L n D q w x) w = true) = 0 :=
  bI_f (fun g => by rcases h with h | h <;> first | omega | exact h g.2.2)
def cfI (T : Int → Int → Bool) (N : Nat) (C : Int → Int) (w r v : Int) : Prop := (r = C w ∨ ∃ t : Int, (0 ≤ t ∧ t < N) ∧ T w t = true ∧ ¬ T t w = true ∧ r = C t + 1 ∧ 0 < C w ∧ C w ≤ C t) ∧ C w ≤ r ∧ (0 < C w → ∀ t : Int, 0 ≤ t → t < v → T w t = true → ¬ T t w = true → C t < r)
theorem cf_0 (T : Int → Int → Bool) (N : Nat) (C : Int → Int) (w : Int) : cfI T N C w (C w) 0 := ⟨.inl rfl, Int.le_refl _, fun _ t a b => by omega⟩
theorem cf_no {T : Int → Int → Bool} {N : Nat} {C : Int → Int} {w r v : Int} (h : cfI T N C w r v) (hv : C v < r ∨ ¬ T w v = true ∨ T v w = true) : cfI T N C w r (v + 1) :=
  ⟨h.1, h.2.1, fun g t a b c d => by
    by_cases e : t = v
    · rw [e] at c d ⊢
      rcases hv with k | k | k
      · exact k
      · exact absurd c k
      · exact absurd k d
    · exact h.2.2 g t a (by omega) c d⟩
theorem cf_yes {T : Int → Int → Bool} {N : Nat} {C : Int → Int} {w r v : Int} (h : cfI T N C w r v) (hv : 0 ≤ v ∧ v < N) (h1 : r ≤ C v) (h2 : T w v = true) (h3 : ¬ T v w = true) (h4 : 0 < r) : cfI T N C w (C v + 1) (v + 1) := by
  have hw : 0 < C w := by
    rcases h.1 with e | ⟨t, -, -, -, -, e, -⟩
    · omega
    · exact e
  refine ⟨.inr ⟨v, hv, h2, h3, rfl, hw, by have := h.2.1; omega⟩, by have := h.2.1; omega, fun g t a b c d => ?_⟩
  by_cases e : t = v
  · rw [e]; omega
  · have := h.2.2 g t a (by omega) c d; omega
theorem cf_fin {T : Int → Int → Bool} {N : Nat} {C : Int → Int} {w r v : Int} (h : cfI T N C w r v) (hv : N ≤ v ∨ r ≤ 0) : cfR T N C w r :=
  ⟨h.1, h.2.1, fun g t a b c d => by
    rcases hv with k | k
    · exact h.2.2 g t a (by omega) c d
    · have := h.2.1; omega⟩
theorem cr_b {T : Int → Int → Bool} {N : Nat} (h : trT T N) {C : Int → Int} {t M g w : Int} (hJ : crJ T N C t M g w) : ∀ u : Int, 0 ≤ u → u < N → 0 ≤ C u ∧ C u ≤ N := fun u a b => by
  have h1 := clA_le h a b (hJ.1 u a b)
  have h2 := h_b h a b
  omega
theorem cfR_b {T : Int → Int → Bool} {N : Nat} {C : Int → Int} {w r : Int} (h : cfR T N C w r) (hw : 0 ≤ w ∧ w < N) (hC : ∀ u : Int, 0 ≤ u → u < N → 0 ≤ C u ∧ C u ≤ N) : 0 ≤ r ∧ r ≤ N + 1 := by
  have h1 := hC w hw.1 hw.2
  rcases h.1 with e | ⟨v, hv, -, -, e, -⟩
  · omega
  · have := hC v hv.1 hv.2; omega
