/-! each pair of methods answers alike and keeps what both sides hold -/
theorem eq_feed {σ : en_m} {n D p : Int} {LW : Int → (Int → Int) → Prop} (h : iV σ n D p LW) {y1 : Int} (g1 : i32 y1) {y2 : Int} (g2 : i32 y2) {y3 : Int} (g3 : i32 y3) {y4 : Int} (g4 : i32 y4) {y5 : Int} (g5 : i32 y5) : en_ct z_X11_feed [.inr (.inr (r_WA, 0)), .inl y1, .inl y2, .inl y3, .inl y4, .inl y5] σ (fun r σ1 => en_ct z_X12_feed [.inr (.inr (r_Md, 0)), .inl y1, .inl y2, .inl y3, .inl y4, .inl y5] σ1 (fun r' σ2 => (∃ v : Int, r = some (.inl v) ∧ r' = some (.inl v)) ∧ iX σ2)) := by
  have hO : sOk n D p := h.2.2.1.1.1
  have hp7 := hO.2.2.2.2.1
  have hp2 := hO.2.2.2.1
  have hS9 := sS_b (k := D + 1) hO
  have hLd := mN_L hO h.2.2.1.2.2.2.2.2.2.2.2.2.2.2.2.2.2.2.2.2.2.2.1
  have bE := h.2.2.2.2.2.2.1
  have mtp : 0 ≤ (σ r_Md_taped) 0 ∧ (σ r_Md_taped) 0 ≤ 2000 := by have q := h.1.2.1; have q2 := h.2.2.2.1; exact ⟨by omega, by omega⟩
  have msz : ∀ k, 0 ≤ k → k ≤ D → 0 ≤ (σ r_Md_sizes) k ∧ (σ r_Md_sizes) k ≤ 256 := fun k a b => by rw [mN_szL h.2.2.1.2.2.2.2.2.2.2.2.2.2.2.2.2.2.2.2.2.2.2.1 a b]; exact szL_b _ hO
  have mlm : 0 ≤ (σ r_Md_laws) ((σ r_Md_live) 0) ∧ (σ r_Md_laws) ((σ r_Md_live) 0) ≤ 8 := by have q := h.1.2.2.2.2.2.2.2.2.2.1.1; have q2 := h.1.2.2.2.2.2.2.2.2.2.2.1; have q3 := h.2.2.2.2.2.2.2.2.2.1; exact ⟨by omega, by omega⟩
  have mld : ∀ i, 0 ≤ i → i < (σ r_Md_laws) ((σ r_Md_live) 0) → (0 ≤ (σ r_Md_lawLength) (8 * (σ r_Md_live) 0 + i) ∧ (σ r_Md_lawLength) (8 * (σ r_Md_live) 0 + i) ≤ D) ∧ (1 ≤ (σ r_Md_lawLength) (8 * (σ r_Md_live) 0 + i) → 0 < n) := fun i a b => eL_e h.2.2.2.2.2.2.2.2.2.2 i a (by have q := h.2.2.2.2.2.2.2.2.2.1; omega)
  have e1 := h.2.2.2.1
  have e2 := h.2.2.2.2.1
  have e3 := h.1.2.1
  refine ct_mono (ct_X11_feed σ y1 y2 y3 y4 y5 h.1.2.1) ?_
  rintro _ _ ⟨f_Tape_bytes, v_Tape_filled, rr1, rfl, rfl, c1⟩
  refine ct_mono (ct_X12_feed _ y1 y2 y3 y4 y5 mtp) ?_
  rintro _ _ ⟨f_Md_tape, v_Md_taped, rr2, rfl, rfl, d1⟩
  have d1 : (if (σ r_Md_taped) 0 + 20 ≤ 2000 then rr2 = (σ r_Md_taped) 0 + 20 ∧ f_Md_tape = t20 (σ r_Md_tape) ((σ r_Md_taped) 0) y1 y2 y3 y4 y5 ∧ (v_Md_taped 0) = (σ r_Md_taped) 0 + 20 else rr2 = -1 ∧ f_Md_tape = (σ r_Md_tape) ∧ (v_Md_taped 0) = (σ r_Md_taped) 0) := d1
  have k : rr1 = rr2 ∧ (0 ≤ v_Tape_filled 0 ∧ v_Tape_filled 0 ≤ 2000) ∧ v_Tape_filled 0 = v_Md_taped 0 ∧ f_Tape_bytes = f_Md_tape ∧ ∀ x, -128 ≤ f_Md_tape x ∧ f_Md_tape x ≤ 127 := by
    by_cases q : (σ r_Tape_filled) 0 + 20 ≤ 2000
    · rw [if_pos q] at c1
      rw [if_pos (show (σ r_Md_taped) 0 + 20 ≤ 2000 by omega)] at d1
      exact ⟨by omega, by omega, by omega, by rw [c1.2.1, d1.2.1, e1, e2], by rw [d1.2.1]; exact t20_b h.2.2.1.2.1⟩
    · rw [if_neg q] at c1
      rw [if_neg (show ¬ (σ r_Md_taped) 0 + 20 ≤ 2000 by omega)] at d1
      exact ⟨by omega, by omega, by omega, by rw [c1.2.1, d1.2.1, e2], by rw [d1.2.1]; exact h.2.2.1.2.1⟩
  refine ⟨ans ?_, n, D, p, LW, ⟨⟨h.1.1, k.2.1, h.1.2.2.1, h.1.2.2.2.1, h.1.2.2.2.2.1, h.1.2.2.2.2.2.1, h.1.2.2.2.2.2.2.1, h.1.2.2.2.2.2.2.2.1, h.1.2.2.2.2.2.2.2.2.1, h.1.2.2.2.2.2.2.2.2.2.1, h.1.2.2.2.2.2.2.2.2.2.2.1, h.1.2.2.2.2.2.2.2.2.2.2.2.1, h.1.2.2.2.2.2.2.2.2.2.2.2.2.1, h.1.2.2.2.2.2.2.2.2.2.2.2.2.2.1, h.1.2.2.2.2.2.2.2.2.2.2.2.2.2.2.1, h.1.2.2.2.2.2.2.2.2.2.2.2.2.2.2.2.1, h.1.2.2.2.2.2.2.2.2.2.2.2.2.2.2.2.2.1, h.1.2.2.2.2.2.2.2.2.2.2.2.2.2.2.2.2.2.1, h.1.2.2.2.2.2.2.2.2.2.2.2.2.2.2.2.2.2.2⟩, ⟨h.2.1.1, h.2.1.2.1, h.2.1.2.2.1, h.2.1.2.2.2.1, h.2.1.2.2.2.2.1, h.2.1.2.2.2.2.2.1, h.2.1.2.2.2.2.2.2.1, h.2.1.2.2.2.2.2.2.2.1, h.2.1.2.2.2.2.2.2.2.2.1, h.2.1.2.2.2.2.2.2.2.2.2.1, h.2.1.2.2.2.2.2.2.2.2.2.2.1, h.2.1.2.2.2.2.2.2.2.2.2.2.2.1, h.2.1.2.2.2.2.2.2.2.2.2.2.2.2.1, h.2.1.2.2.2.2.2.2.2.2.2.2.2.2.2.1, h.2.1.2.2.2.2.2.2.2.2.2.2.2.2.2.2⟩, ⟨h.2.2.1.1, k.2.2.2.2, h.2.2.1.2.2.1, h.2.2.1.2.2.2.1, h.2.2.1.2.2.2.2.1, h.2.2.1.2.2.2.2.2.1, h.2.2.1.2.2.2.2.2.2.1, h.2.2.1.2.2.2.2.2.2.2.1, h.2.2.1.2.2.2.2.2.2.2.2.1, h.2.2.1.2.2.2.2.2.2.2.2.2.1, h.2.2.1.2.2.2.2.2.2.2.2.2.2.1, h.2.2.1.2.2.2.2.2.2.2.2.2.2.2.1, h.2.2.1.2.2.2.2.2.2.2.2.2.2.2.2.1, h.2.2.1.2.2.2.2.2.2.2.2.2.2.2.2.2.1, h.2.2.1.2.2.2.2.2.2.2.2.2.2.2.2.2.2.1, h.2.2.1.2.2.2.2.2.2.2.2.2.2.2.2.2.2.2.1, h.2.2.1.2.2.2.2.2.2.2.2.2.2.2.2.2.2.2.2.1, h.2.2.1.2.2.2.2.2.2.2.2.2.2.2.2.2.2.2.2.2.1, h.2.2.1.2.2.2.2.2.2.2.2.2.2.2.2.2.2.2.2.2.2.1, h.2.2.1.2.2.2.2.2.2.2.2.2.2.2.2.2.2.2.2.2.2.2.1, h.2.2.1.2.2.2.2.2.2.2.2.2.2.2.2.2.2.2.2.2.2.2.2⟩, ⟨k.2.2.1, k.2.2.2.1, h.2.2.2.2.2.1, h.2.2.2.2.2.2.1, h.2.2.2.2.2.2.2.1, h.2.2.2.2.2.2.2.2.1, h.2.2.2.2.2.2.2.2.2.1, h.2.2.2.2.2.2.2.2.2.2⟩⟩⟩
  exact k.1
theorem eq_back {σ : en_m} {n D p : Int} {LW : Int → (Int → Int) → Prop} (h : iV σ n D p LW) {y1 : Int} (g1 : i32 y1) : en_ct z_X11_back [.inr (.inr (r_WA, 0)), .inl y1] σ (fun r σ1 => en_ct z_X12_back [.inr (.inr (r_Md, 0)), .inl y1] σ1 (fun r' σ2 => (∃ v : Int, r = some (.inl v) ∧ r' = some (.inl v)) ∧ iX σ2)) := by
  have hO : sOk n D p := h.2.2.1.1.1
  have hp7 := hO.2.2.2.2.1
  have hp2 := hO.2.2.2.1
  have hS9 := sS_b (k := D + 1) hO
  have hLd := mN_L hO h.2.2.1.2.2.2.2.2.2.2.2.2.2.2.2.2.2.2.2.2.2.2.1
  have bE := h.2.2.2.2.2.2.1
  have mtp : 0 ≤ (σ r_Md_taped) 0 ∧ (σ r_Md_taped) 0 ≤ 2000 := by have q := h.1.2.1; have q2 := h.2.2.2.1; exact ⟨by omega, by omega⟩
  have msz : ∀ k, 0 ≤ k → k ≤ D → 0 ≤ (σ r_Md_sizes) k ∧ (σ r_Md_sizes) k ≤ 256 := fun k a b => by rw [mN_szL h.2.2.1.2.2.2.2.2.2.2.2.2.2.2.2.2.2.2.2.2.2.2.1 a b]; exact szL_b _ hO
  have mlm : 0 ≤ (σ r_Md_laws) ((σ r_Md_live) 0) ∧ (σ r_Md_laws) ((σ r_Md_live) 0) ≤ 8 := by have q := h.1.2.2.2.2.2.2.2.2.2.1.1; have q2 := h.1.2.2.2.2.2.2.2.2.2.2.1; have q3 := h.2.2.2.2.2.2.2.2.2.1; exact ⟨by omega, by omega⟩
  have mld : ∀ i, 0 ≤ i → i < (σ r_Md_laws) ((σ r_Md_live) 0) → (0 ≤ (σ r_Md_lawLength) (8 * (σ r_Md_live) 0 + i) ∧ (σ r_Md_lawLength) (8 * (σ r_Md_live) 0 + i) ≤ D) ∧ (1 ≤ (σ r_Md_lawLength) (8 * (σ r_Md_live) 0 + i) → 0 < n) := fun i a b => eL_e h.2.2.2.2.2.2.2.2.2.2 i a (by have q := h.2.2.2.2.2.2.2.2.2.1; omega)
  have e1 := h.2.2.2.1
  have e3 := h.1.2.1
  refine ct_mono (ct_X11_back σ y1 g1 h.1.2.1) ?_
  rintro _ _ ⟨v_Tape_filled, rr1, rfl, rfl, c1⟩
  refine ct_mono (ct_X12_back _ y1 g1 mtp) ?_
  rintro _ _ ⟨v_Md_taped, rr2, rfl, rfl, d1⟩
  have d1 : (if 0 ≤ y1 ∧ y1 ≤ (σ r_Md_taped) 0 then rr2 = (σ r_Md_taped) 0 - y1 ∧ (v_Md_taped 0) = (σ r_Md_taped) 0 - y1 else rr2 = -1 ∧ (v_Md_taped 0) = (σ r_Md_taped) 0) := d1
  have k : rr1 = rr2 ∧ (0 ≤ v_Tape_filled 0 ∧ v_Tape_filled 0 ≤ 2000) ∧ v_Tape_filled 0 = v_Md_taped 0 := by
    by_cases q : 0 ≤ y1 ∧ y1 ≤ (σ r_Tape_filled) 0
    · rw [if_pos q] at c1
      rw [if_pos (show 0 ≤ y1 ∧ y1 ≤ (σ r_Md_taped) 0 by omega)] at d1
      exact ⟨by omega, by omega, by omega⟩
    · rw [if_neg q] at c1
      rw [if_neg (show ¬ (0 ≤ y1 ∧ y1 ≤ (σ r_Md_taped) 0) by omega)] at d1
      exact ⟨by omega, by omega, by omega⟩
  refine ⟨ans ?_, n, D, p, LW, ⟨⟨h.1.1, k.2.1, h.1.2.2.1, h.1.2.2.2.1, h.1.2.2.2.2.1, h.1.2.2.2.2.2.1, h.1.2.2.2.2.2.2.1, h.1.2.2.2.2.2.2.2.1, h.1.2.2.2.2.2.2.2.2.1, h.1.2.2.2.2.2.2.2.2.2.1, h.1.2.2.2.2.2.2.2.2.2.2.1, h.1.2.2.2.2.2.2.2.2.2.2.2.1, h.1.2.2.2.2.2.2.2.2.2.2.2.2.1, h.1.2.2.2.2.2.2.2.2.2.2.2.2.2.1, h.1.2.2.2.2.2.2.2.2.2.2.2.2.2.2.1, h.1.2.2.2.2.2.2.2.2.2.2.2.2.2.2.2.1, h.1.2.2.2.2.2.2.2.2.2.2.2.2.2.2.2.2.1, h.1.2.2.2.2.2.2.2.2.2.2.2.2.2.2.2.2.2.1, h.1.2.2.2.2.2.2.2.2.2.2.2.2.2.2.2.2.2.2⟩, ⟨h.2.1.1, h.2.1.2.1, h.2.1.2.2.1, h.2.1.2.2.2.1, h.2.1.2.2.2.2.1, h.2.1.2.2.2.2.2.1, h.2.1.2.2.2.2.2.2.1, h.2.1.2.2.2.2.2.2.2.1, h.2.1.2.2.2.2.2.2.2.2.1, h.2.1.2.2.2.2.2.2.2.2.2.1, h.2.1.2.2.2.2.2.2.2.2.2.2.1, h.2.1.2.2.2.2.2.2.2.2.2.2.2.1, h.2.1.2.2.2.2.2.2.2.2.2.2.2.2.1, h.2.1.2.2.2.2.2.2.2.2.2.2.2.2.2.1, h.2.1.2.2.2.2.2.2.2.2.2.2.2.2.2.2⟩, ⟨h.2.2.1.1, h.2.2.1.2.1, h.2.2.1.2.2.1, h.2.2.1.2.2.2.1, h.2.2.1.2.2.2.2.1, h.2.2.1.2.2.2.2.2.1, h.2.2.1.2.2.2.2.2.2.1, h.2.2.1.2.2.2.2.2.2.2.1, h.2.2.1.2.2.2.2.2.2.2.2.1, h.2.2.1.2.2.2.2.2.2.2.2.2.1, h.2.2.1.2.2.2.2.2.2.2.2.2.2.1, h.2.2.1.2.2.2.2.2.2.2.2.2.2.2.1, h.2.2.1.2.2.2.2.2.2.2.2.2.2.2.2.1, h.2.2.1.2.2.2.2.2.2.2.2.2.2.2.2.2.1, h.2.2.1.2.2.2.2.2.2.2.2.2.2.2.2.2.2.1, h.2.2.1.2.2.2.2.2.2.2.2.2.2.2.2.2.2.2.1, h.2.2.1.2.2.2.2.2.2.2.2.2.2.2.2.2.2.2.2.1, h.2.2.1.2.2.2.2.2.2.2.2.2.2.2.2.2.2.2.2.2.1, h.2.2.1.2.2.2.2.2.2.2.2.2.2.2.2.2.2.2.2.2.2.1, h.2.2.1.2.2.2.2.2.2.2.2.2.2.2.2.2.2.2.2.2.2.2.1, h.2.2.1.2.2.2.2.2.2.2.2.2.2.2.2.2.2.2.2.2.2.2.2⟩, ⟨k.2.2, h.2.2.2.2.1, h.2.2.2.2.2.1, h.2.2.2.2.2.2.1, h.2.2.2.2.2.2.2.1, h.2.2.2.2.2.2.2.2.1, h.2.2.2.2.2.2.2.2.2.1, h.2.2.2.2.2.2.2.2.2.2⟩⟩⟩
  exact k.1
theorem eq_place {σ : en_m} {n D p : Int} {LW : Int → (Int → Int) → Prop} (h : iV σ n D p LW) : en_ct z_X11_place [.inr (.inr (r_WA, 0))] σ (fun r σ1 => en_ct z_X12_place [.inr (.inr (r_Md, 0))] σ1 (fun r' σ2 => (∃ v : Int, r = some (.inl v) ∧ r' = some (.inl v)) ∧ iX σ2)) := by
  have hO : sOk n D p := h.2.2.1.1.1
  have hp7 := hO.2.2.2.2.1
  have hp2 := hO.2.2.2.1
  have hS9 := sS_b (k := D + 1) hO
  have hLd := mN_L hO h.2.2.1.2.2.2.2.2.2.2.2.2.2.2.2.2.2.2.2.2.2.2.1
  have bE := h.2.2.2.2.2.2.1
  have mtp : 0 ≤ (σ r_Md_taped) 0 ∧ (σ r_Md_taped) 0 ≤ 2000 := by have q := h.1.2.1; have q2 := h.2.2.2.1; exact ⟨by omega, by omega⟩
  have msz : ∀ k, 0 ≤ k → k ≤ D → 0 ≤ (σ r_Md_sizes) k ∧ (σ r_Md_sizes) k ≤ 256 := fun k a b => by rw [mN_szL h.2.2.1.2.2.2.2.2.2.2.2.2.2.2.2.2.2.2.2.2.2.2.1 a b]; exact szL_b _ hO
  have mlm : 0 ≤ (σ r_Md_laws) ((σ r_Md_live) 0) ∧ (σ r_Md_laws) ((σ r_Md_live) 0) ≤ 8 := by have q := h.1.2.2.2.2.2.2.2.2.2.1.1; have q2 := h.1.2.2.2.2.2.2.2.2.2.2.1; have q3 := h.2.2.2.2.2.2.2.2.2.1; exact ⟨by omega, by omega⟩
  have mld : ∀ i, 0 ≤ i → i < (σ r_Md_laws) ((σ r_Md_live) 0) → (0 ≤ (σ r_Md_lawLength) (8 * (σ r_Md_live) 0 + i) ∧ (σ r_Md_lawLength) (8 * (σ r_Md_live) 0 + i) ≤ D) ∧ (1 ≤ (σ r_Md_lawLength) (8 * (σ r_Md_live) 0 + i) → 0 < n) := fun i a b => eL_e h.2.2.2.2.2.2.2.2.2.2 i a (by have q := h.2.2.2.2.2.2.2.2.2.1; omega)
  refine fn_mono (ct_X11_place σ) ?_
  refine fn_mono (ct_X12_place _) ?_
  refine ⟨ans ?_, n, D, p, LW, ⟨⟨h.1.1, h.1.2.1, h.1.2.2.1, h.1.2.2.2.1, h.1.2.2.2.2.1, h.1.2.2.2.2.2.1, h.1.2.2.2.2.2.2.1, h.1.2.2.2.2.2.2.2.1, h.1.2.2.2.2.2.2.2.2.1, h.1.2.2.2.2.2.2.2.2.2.1, h.1.2.2.2.2.2.2.2.2.2.2.1, h.1.2.2.2.2.2.2.2.2.2.2.2.1, h.1.2.2.2.2.2.2.2.2.2.2.2.2.1, h.1.2.2.2.2.2.2.2.2.2.2.2.2.2.1, h.1.2.2.2.2.2.2.2.2.2.2.2.2.2.2.1, h.1.2.2.2.2.2.2.2.2.2.2.2.2.2.2.2.1, h.1.2.2.2.2.2.2.2.2.2.2.2.2.2.2.2.2.1, h.1.2.2.2.2.2.2.2.2.2.2.2.2.2.2.2.2.2.1, h.1.2.2.2.2.2.2.2.2.2.2.2.2.2.2.2.2.2.2⟩, ⟨h.2.1.1, h.2.1.2.1, h.2.1.2.2.1, h.2.1.2.2.2.1, h.2.1.2.2.2.2.1, h.2.1.2.2.2.2.2.1, h.2.1.2.2.2.2.2.2.1, h.2.1.2.2.2.2.2.2.2.1, h.2.1.2.2.2.2.2.2.2.2.1, h.2.1.2.2.2.2.2.2.2.2.2.1, h.2.1.2.2.2.2.2.2.2.2.2.2.1, h.2.1.2.2.2.2.2.2.2.2.2.2.2.1, h.2.1.2.2.2.2.2.2.2.2.2.2.2.2.1, h.2.1.2.2.2.2.2.2.2.2.2.2.2.2.2.1, h.2.1.2.2.2.2.2.2.2.2.2.2.2.2.2.2⟩, ⟨h.2.2.1.1, h.2.2.1.2.1, h.2.2.1.2.2.1, h.2.2.1.2.2.2.1, h.2.2.1.2.2.2.2.1, h.2.2.1.2.2.2.2.2.1, h.2.2.1.2.2.2.2.2.2.1, h.2.2.1.2.2.2.2.2.2.2.1, h.2.2.1.2.2.2.2.2.2.2.2.1, h.2.2.1.2.2.2.2.2.2.2.2.2.1, h.2.2.1.2.2.2.2.2.2.2.2.2.2.1, h.2.2.1.2.2.2.2.2.2.2.2.2.2.2.1, h.2.2.1.2.2.2.2.2.2.2.2.2.2.2.2.1, h.2.2.1.2.2.2.2.2.2.2.2.2.2.2.2.2.1, h.2.2.1.2.2.2.2.2.2.2.2.2.2.2.2.2.2.1, h.2.2.1.2.2.2.2.2.2.2.2.2.2.2.2.2.2.2.1, h.2.2.1.2.2.2.2.2.2.2.2.2.2.2.2.2.2.2.2.1, h.2.2.1.2.2.2.2.2.2.2.2.2.2.2.2.2.2.2.2.2.1, h.2.2.1.2.2.2.2.2.2.2.2.2.2.2.2.2.2.2.2.2.2.1, h.2.2.1.2.2.2.2.2.2.2.2.2.2.2.2.2.2.2.2.2.2.2.1, h.2.2.1.2.2.2.2.2.2.2.2.2.2.2.2.2.2.2.2.2.2.2.2⟩, ⟨h.2.2.2.1, h.2.2.2.2.1, h.2.2.2.2.2.1, h.2.2.2.2.2.2.1, h.2.2.2.2.2.2.2.1, h.2.2.2.2.2.2.2.2.1, h.2.2.2.2.2.2.2.2.2.1, h.2.2.2.2.2.2.2.2.2.2⟩⟩⟩
  exact h.2.2.2.2.2.1
theorem eq_counts {σ : en_m} {n D p : Int} {LW : Int → (Int → Int) → Prop} (h : iV σ n D p LW) {y1 : Int} (g1 : i32 y1) {y2 : Int} (g2 : i32 y2) : en_ct z_X11_counts [.inr (.inr (r_WA, 0)), .inl y1, .inl y2] σ (fun r σ1 => en_ct z_X12_counts [.inr (.inr (r_Md, 0)), .inl y1, .inl y2] σ1 (fun r' σ2 => (∃ v : Int, r = some (.inl v) ∧ r' = some (.inl v)) ∧ iX σ2)) := by
  have hO : sOk n D p := h.2.2.1.1.1
  have hp7 := hO.2.2.2.2.1
  have hp2 := hO.2.2.2.1
  have hS9 := sS_b (k := D + 1) hO
  have hLd := mN_L hO h.2.2.1.2.2.2.2.2.2.2.2.2.2.2.2.2.2.2.2.2.2.2.1
  have bE := h.2.2.2.2.2.2.1
  have mtp : 0 ≤ (σ r_Md_taped) 0 ∧ (σ r_Md_taped) 0 ≤ 2000 := by have q := h.1.2.1; have q2 := h.2.2.2.1; exact ⟨by omega, by omega⟩
  have msz : ∀ k, 0 ≤ k → k ≤ D → 0 ≤ (σ r_Md_sizes) k ∧ (σ r_Md_sizes) k ≤ 256 := fun k a b => by rw [mN_szL h.2.2.1.2.2.2.2.2.2.2.2.2.2.2.2.2.2.2.2.2.2.2.1 a b]; exact szL_b _ hO
  have mlm : 0 ≤ (σ r_Md_laws) ((σ r_Md_live) 0) ∧ (σ r_Md_laws) ((σ r_Md_live) 0) ≤ 8 := by have q := h.1.2.2.2.2.2.2.2.2.2.1.1; have q2 := h.1.2.2.2.2.2.2.2.2.2.2.1; have q3 := h.2.2.2.2.2.2.2.2.2.1; exact ⟨by omega, by omega⟩
  have mld : ∀ i, 0 ≤ i → i < (σ r_Md_laws) ((σ r_Md_live) 0) → (0 ≤ (σ r_Md_lawLength) (8 * (σ r_Md_live) 0 + i) ∧ (σ r_Md_lawLength) (8 * (σ r_Md_live) 0 + i) ≤ D) ∧ (1 ≤ (σ r_Md_lawLength) (8 * (σ r_Md_live) 0 + i) → 0 < n) := fun i a b => eL_e h.2.2.2.2.2.2.2.2.2.2 i a (by have q := h.2.2.2.2.2.2.2.2.2.1; omega)
  refine fn_mono (ct_X11_counts σ n D p y1 y2 h.1.1 g1 g2) ?_
  refine fn_mono (ct_X12_counts _ n D p y1 y2 h.2.2.1.1 g1 g2) ?_
  refine ⟨ans ?_, n, D, p, LW, ⟨⟨h.1.1, h.1.2.1, h.1.2.2.1, h.1.2.2.2.1, h.1.2.2.2.2.1, h.1.2.2.2.2.2.1, h.1.2.2.2.2.2.2.1, h.1.2.2.2.2.2.2.2.1, h.1.2.2.2.2.2.2.2.2.1, h.1.2.2.2.2.2.2.2.2.2.1, h.1.2.2.2.2.2.2.2.2.2.2.1, h.1.2.2.2.2.2.2.2.2.2.2.2.1, h.1.2.2.2.2.2.2.2.2.2.2.2.2.1, h.1.2.2.2.2.2.2.2.2.2.2.2.2.2.1, h.1.2.2.2.2.2.2.2.2.2.2.2.2.2.2.1, h.1.2.2.2.2.2.2.2.2.2.2.2.2.2.2.2.1, h.1.2.2.2.2.2.2.2.2.2.2.2.2.2.2.2.2.1, h.1.2.2.2.2.2.2.2.2.2.2.2.2.2.2.2.2.2.1, h.1.2.2.2.2.2.2.2.2.2.2.2.2.2.2.2.2.2.2⟩, ⟨h.2.1.1, h.2.1.2.1, h.2.1.2.2.1, h.2.1.2.2.2.1, h.2.1.2.2.2.2.1, h.2.1.2.2.2.2.2.1, h.2.1.2.2.2.2.2.2.1, h.2.1.2.2.2.2.2.2.2.1, h.2.1.2.2.2.2.2.2.2.2.1, h.2.1.2.2.2.2.2.2.2.2.2.1, h.2.1.2.2.2.2.2.2.2.2.2.2.1, h.2.1.2.2.2.2.2.2.2.2.2.2.2.1, h.2.1.2.2.2.2.2.2.2.2.2.2.2.2.1, h.2.1.2.2.2.2.2.2.2.2.2.2.2.2.2.1, h.2.1.2.2.2.2.2.2.2.2.2.2.2.2.2.2⟩, ⟨h.2.2.1.1, h.2.2.1.2.1, h.2.2.1.2.2.1, h.2.2.1.2.2.2.1, h.2.2.1.2.2.2.2.1, h.2.2.1.2.2.2.2.2.1, h.2.2.1.2.2.2.2.2.2.1, h.2.2.1.2.2.2.2.2.2.2.1, h.2.2.1.2.2.2.2.2.2.2.2.1, h.2.2.1.2.2.2.2.2.2.2.2.2.1, h.2.2.1.2.2.2.2.2.2.2.2.2.2.1, h.2.2.1.2.2.2.2.2.2.2.2.2.2.2.1, h.2.2.1.2.2.2.2.2.2.2.2.2.2.2.2.1, h.2.2.1.2.2.2.2.2.2.2.2.2.2.2.2.2.1, h.2.2.1.2.2.2.2.2.2.2.2.2.2.2.2.2.2.1, h.2.2.1.2.2.2.2.2.2.2.2.2.2.2.2.2.2.2.1, h.2.2.1.2.2.2.2.2.2.2.2.2.2.2.2.2.2.2.2.1, h.2.2.1.2.2.2.2.2.2.2.2.2.2.2.2.2.2.2.2.2.1, h.2.2.1.2.2.2.2.2.2.2.2.2.2.2.2.2.2.2.2.2.2.1, h.2.2.1.2.2.2.2.2.2.2.2.2.2.2.2.2.2.2.2.2.2.2.1, h.2.2.1.2.2.2.2.2.2.2.2.2.2.2.2.2.2.2.2.2.2.2.2⟩, ⟨h.2.2.2.1, h.2.2.2.2.1, h.2.2.2.2.2.1, h.2.2.2.2.2.2.1, h.2.2.2.2.2.2.2.1, h.2.2.2.2.2.2.2.2.1, h.2.2.2.2.2.2.2.2.2.1, h.2.2.2.2.2.2.2.2.2.2⟩⟩⟩
  by_cases q : (0 ≤ y1 ∧ y1 ≤ 5) ∧ 0 ≤ sAt n D y2
  · rw [if_pos (show (0 ≤ y1 ∧ y1 ≤ 5) ∧ ¬ sAt n D y2 = -1 from ⟨q.1, (sAt_i hO).mpr q.2⟩), if_pos q]
    exact bE.1 _ _ q.1 ⟨q.2, sAt_in hO q.2⟩
  · rw [if_neg (show ¬ ((0 ≤ y1 ∧ y1 ≤ 5) ∧ ¬ sAt n D y2 = -1) from fun r => q ⟨r.1, (sAt_i hO).mp r.2⟩), if_neg q]
theorem eq_words {σ : en_m} {n D p : Int} {LW : Int → (Int → Int) → Prop} (h : iV σ n D p LW) {y1 : Int} (g1 : i32 y1) {y2 : Int} (g2 : i32 y2) : en_ct z_X11_words [.inr (.inr (r_WA, 0)), .inl y1, .inl y2] σ (fun r σ1 => en_ct z_X12_words [.inr (.inr (r_Md, 0)), .inl y1, .inl y2] σ1 (fun r' σ2 => (∃ v : Int, r = some (.inl v) ∧ r' = some (.inl v)) ∧ iX σ2)) := by
  have hO : sOk n D p := h.2.2.1.1.1
  have hp7 := hO.2.2.2.2.1
  have hp2 := hO.2.2.2.1
  have hS9 := sS_b (k := D + 1) hO
  have hLd := mN_L hO h.2.2.1.2.2.2.2.2.2.2.2.2.2.2.2.2.2.2.2.2.2.2.1
  have bE := h.2.2.2.2.2.2.1
  have mtp : 0 ≤ (σ r_Md_taped) 0 ∧ (σ r_Md_taped) 0 ≤ 2000 := by have q := h.1.2.1; have q2 := h.2.2.2.1; exact ⟨by omega, by omega⟩
  have msz : ∀ k, 0 ≤ k → k ≤ D → 0 ≤ (σ r_Md_sizes) k ∧ (σ r_Md_sizes) k ≤ 256 := fun k a b => by rw [mN_szL h.2.2.1.2.2.2.2.2.2.2.2.2.2.2.2.2.2.2.2.2.2.2.1 a b]; exact szL_b _ hO
  have mlm : 0 ≤ (σ r_Md_laws) ((σ r_Md_live) 0) ∧ (σ r_Md_laws) ((σ r_Md_live) 0) ≤ 8 := by have q := h.1.2.2.2.2.2.2.2.2.2.1.1; have q2 := h.1.2.2.2.2.2.2.2.2.2.2.1; have q3 := h.2.2.2.2.2.2.2.2.2.1; exact ⟨by omega, by omega⟩
  have mld : ∀ i, 0 ≤ i → i < (σ r_Md_laws) ((σ r_Md_live) 0) → (0 ≤ (σ r_Md_lawLength) (8 * (σ r_Md_live) 0 + i) ∧ (σ r_Md_lawLength) (8 * (σ r_Md_live) 0 + i) ≤ D) ∧ (1 ≤ (σ r_Md_lawLength) (8 * (σ r_Md_live) 0 + i) → 0 < n) := fun i a b => eL_e h.2.2.2.2.2.2.2.2.2.2 i a (by have q := h.2.2.2.2.2.2.2.2.2.1; omega)
  refine fn_mono (ct_X11_words σ n D p y1 y2 h.1.1 g1 g2 h.1.2.2.2.2.2.2.2.2.2.2.2.1) ?_
  refine fn_mono (ct_X12_words _ n D p y1 y2 h.2.2.1.1 h.2.2.1.2.2.2.2.2.2.2.2.2.2.2.2.2.1 g1 g2) ?_
  refine ⟨ans ?_, n, D, p, LW, ⟨⟨h.1.1, h.1.2.1, h.1.2.2.1, h.1.2.2.2.1, h.1.2.2.2.2.1, h.1.2.2.2.2.2.1, h.1.2.2.2.2.2.2.1, h.1.2.2.2.2.2.2.2.1, h.1.2.2.2.2.2.2.2.2.1, h.1.2.2.2.2.2.2.2.2.2.1, h.1.2.2.2.2.2.2.2.2.2.2.1, h.1.2.2.2.2.2.2.2.2.2.2.2.1, h.1.2.2.2.2.2.2.2.2.2.2.2.2.1, h.1.2.2.2.2.2.2.2.2.2.2.2.2.2.1, h.1.2.2.2.2.2.2.2.2.2.2.2.2.2.2.1, h.1.2.2.2.2.2.2.2.2.2.2.2.2.2.2.2.1, h.1.2.2.2.2.2.2.2.2.2.2.2.2.2.2.2.2.1, h.1.2.2.2.2.2.2.2.2.2.2.2.2.2.2.2.2.2.1, h.1.2.2.2.2.2.2.2.2.2.2.2.2.2.2.2.2.2.2⟩, ⟨h.2.1.1, h.2.1.2.1, h.2.1.2.2.1, h.2.1.2.2.2.1, h.2.1.2.2.2.2.1, h.2.1.2.2.2.2.2.1, h.2.1.2.2.2.2.2.2.1, h.2.1.2.2.2.2.2.2.2.1, h.2.1.2.2.2.2.2.2.2.2.1, h.2.1.2.2.2.2.2.2.2.2.2.1, h.2.1.2.2.2.2.2.2.2.2.2.2.1, h.2.1.2.2.2.2.2.2.2.2.2.2.2.1, h.2.1.2.2.2.2.2.2.2.2.2.2.2.2.1, h.2.1.2.2.2.2.2.2.2.2.2.2.2.2.2.1, h.2.1.2.2.2.2.2.2.2.2.2.2.2.2.2.2⟩, ⟨h.2.2.1.1, h.2.2.1.2.1, h.2.2.1.2.2.1, h.2.2.1.2.2.2.1, h.2.2.1.2.2.2.2.1, h.2.2.1.2.2.2.2.2.1, h.2.2.1.2.2.2.2.2.2.1, h.2.2.1.2.2.2.2.2.2.2.1, h.2.2.1.2.2.2.2.2.2.2.2.1, h.2.2.1.2.2.2.2.2.2.2.2.2.1, h.2.2.1.2.2.2.2.2.2.2.2.2.2.1, h.2.2.1.2.2.2.2.2.2.2.2.2.2.2.1, h.2.2.1.2.2.2.2.2.2.2.2.2.2.2.2.1, h.2.2.1.2.2.2.2.2.2.2.2.2.2.2.2.2.1, h.2.2.1.2.2.2.2.2.2.2.2.2.2.2.2.2.2.1, h.2.2.1.2.2.2.2.2.2.2.2.2.2.2.2.2.2.2.1, h.2.2.1.2.2.2.2.2.2.2.2.2.2.2.2.2.2.2.2.1, h.2.2.1.2.2.2.2.2.2.2.2.2.2.2.2.2.2.2.2.2.1, h.2.2.1.2.2.2.2.2.2.2.2.2.2.2.2.2.2.2.2.2.2.1, h.2.2.1.2.2.2.2.2.2.2.2.2.2.2.2.2.2.2.2.2.2.2.1, h.2.2.1.2.2.2.2.2.2.2.2.2.2.2.2.2.2.2.2.2.2.2.2⟩, ⟨h.2.2.2.1, h.2.2.2.2.1, h.2.2.2.2.2.1, h.2.2.2.2.2.2.1, h.2.2.2.2.2.2.2.1, h.2.2.2.2.2.2.2.2.1, h.2.2.2.2.2.2.2.2.2.1, h.2.2.2.2.2.2.2.2.2.2⟩⟩⟩
  by_cases q : ¬ (0 ≤ y1 ∧ y1 ≤ 5) ∨ ¬ (0 ≤ y2 ∧ y2 ≤ 1)
  · rw [if_pos q, if_pos q]
  · rw [if_neg q, if_neg q]
    have he : 0 ≤ y1 ∧ y1 ≤ 5 := by omega
    by_cases q2 : y2 = 0
    · rw [if_pos q2, if_pos q2]
      exact eE_C hO bE he
    · rw [if_neg q2, if_neg q2, eE_G bE he]
      have gb := sG_bb (f := fun k => (σ r_Md_element) (400 * y1 + k)) hO
      by_cases q3 : sG (fun k => (σ r_Md_element) (400 * y1 + k)) (sS n D (D + 1)).toNat = -1
      · rw [if_pos q3, if_pos (by omega)]
      · rw [if_neg q3, if_neg (by omega)]
        unfold sCode
        omega
theorem eq_put {σ : en_m} {n D p : Int} {LW : Int → (Int → Int) → Prop} (h : iV σ n D p LW) {y1 : Int} (g1 : i32 y1) {y2 : Int} (g2 : i32 y2) {y3 : Int} (g3 : i32 y3) : en_ct z_X11_put [.inr (.inr (r_WA, 0)), .inl y1, .inl y2, .inl y3] σ (fun r σ1 => en_ct z_X12_put_ [.inr (.inr (r_Md, 0)), .inl y1, .inl y2, .inl y3] σ1 (fun r' σ2 => (∃ v : Int, r = some (.inl v) ∧ r' = some (.inl v)) ∧ iX σ2)) := by
  have hO : sOk n D p := h.2.2.1.1.1
  have hp7 := hO.2.2.2.2.1
  have hp2 := hO.2.2.2.1
  have hS9 := sS_b (k := D + 1) hO
  have hLd := mN_L hO h.2.2.1.2.2.2.2.2.2.2.2.2.2.2.2.2.2.2.2.2.2.2.1
  have bE := h.2.2.2.2.2.2.1
  have mtp : 0 ≤ (σ r_Md_taped) 0 ∧ (σ r_Md_taped) 0 ≤ 2000 := by have q := h.1.2.1; have q2 := h.2.2.2.1; exact ⟨by omega, by omega⟩
  have msz : ∀ k, 0 ≤ k → k ≤ D → 0 ≤ (σ r_Md_sizes) k ∧ (σ r_Md_sizes) k ≤ 256 := fun k a b => by rw [mN_szL h.2.2.1.2.2.2.2.2.2.2.2.2.2.2.2.2.2.2.2.2.2.2.1 a b]; exact szL_b _ hO
  have mlm : 0 ≤ (σ r_Md_laws) ((σ r_Md_live) 0) ∧ (σ r_Md_laws) ((σ r_Md_live) 0) ≤ 8 := by have q := h.1.2.2.2.2.2.2.2.2.2.1.1; have q2 := h.1.2.2.2.2.2.2.2.2.2.2.1; have q3 := h.2.2.2.2.2.2.2.2.2.1; exact ⟨by omega, by omega⟩
  have mld : ∀ i, 0 ≤ i → i < (σ r_Md_laws) ((σ r_Md_live) 0) → (0 ≤ (σ r_Md_lawLength) (8 * (σ r_Md_live) 0 + i) ∧ (σ r_Md_lawLength) (8 * (σ r_Md_live) 0 + i) ≤ D) ∧ (1 ≤ (σ r_Md_lawLength) (8 * (σ r_Md_live) 0 + i) → 0 < n) := fun i a b => eL_e h.2.2.2.2.2.2.2.2.2.2 i a (by have q := h.2.2.2.2.2.2.2.2.2.1; omega)
  refine ct_mono (ct_X11_put σ n D p y1 y2 y3 h.1.1 g1 g2 g3) ?_
  rintro _ _ ⟨f_Elements_rowsR, rfl, rfl, c1⟩
  refine ct_mono (ct_X12_put_ _ n D p y1 y2 y3 h.2.2.1.1 g1 g2 g3) ?_
  rintro _ _ ⟨f_Md_element, rfl, rfl, d1⟩
  have d1 : (f_Md_element = if (0 ≤ y1 ∧ y1 ≤ 5) ∧ 0 ≤ sAt n D y2 then up ((σ r_Md_element)) (400 * y1 + sAt n D y2) (y3 % p) else (σ r_Md_element)) := d1
  have k : R97 f_Elements_rowsR ∧ R97 f_Md_element ∧ eE n D p f_Elements_rowsR f_Md_element := by
    have m0 := Int.emod_nonneg y3 (show p ≠ 0 by omega)
    have m1 := Int.emod_lt_of_pos y3 (show 0 < p by omega)
    by_cases q : (0 ≤ y1 ∧ y1 ≤ 5) ∧ 0 ≤ sAt n D y2
    · rw [if_pos (show (0 ≤ y1 ∧ y1 ≤ 5) ∧ ¬ sAt n D y2 = -1 from ⟨q.1, (sAt_i hO).mpr q.2⟩)] at c1
      rw [if_pos q] at d1
      rw [c1, d1]
      exact ⟨R97_up h.1.2.2.2.2.2.2.2.2.2.2.2.1 (by omega), R97_up h.2.2.1.2.2.2.2.2.2.2.2.2.2.2.2.2.1 (by omega), eE_up hO bE q.1 ⟨q.2, sAt_in hO q.2⟩ m1⟩
    · rw [if_neg (show ¬ ((0 ≤ y1 ∧ y1 ≤ 5) ∧ ¬ sAt n D y2 = -1) from fun r => q ⟨r.1, (sAt_i hO).mp r.2⟩)] at c1
      rw [if_neg q] at d1
      rw [c1, d1]
      exact ⟨h.1.2.2.2.2.2.2.2.2.2.2.2.1, h.2.2.1.2.2.2.2.2.2.2.2.2.2.2.2.2.1, bE⟩
  refine ⟨ans ?_, n, D, p, LW, ⟨⟨h.1.1, h.1.2.1, h.1.2.2.1, h.1.2.2.2.1, h.1.2.2.2.2.1, h.1.2.2.2.2.2.1, h.1.2.2.2.2.2.2.1, h.1.2.2.2.2.2.2.2.1, h.1.2.2.2.2.2.2.2.2.1, h.1.2.2.2.2.2.2.2.2.2.1, h.1.2.2.2.2.2.2.2.2.2.2.1, k.1, h.1.2.2.2.2.2.2.2.2.2.2.2.2.1, h.1.2.2.2.2.2.2.2.2.2.2.2.2.2.1, h.1.2.2.2.2.2.2.2.2.2.2.2.2.2.2.1, h.1.2.2.2.2.2.2.2.2.2.2.2.2.2.2.2.1, h.1.2.2.2.2.2.2.2.2.2.2.2.2.2.2.2.2.1, h.1.2.2.2.2.2.2.2.2.2.2.2.2.2.2.2.2.2.1, h.1.2.2.2.2.2.2.2.2.2.2.2.2.2.2.2.2.2.2⟩, ⟨h.2.1.1, h.2.1.2.1, h.2.1.2.2.1, h.2.1.2.2.2.1, h.2.1.2.2.2.2.1, h.2.1.2.2.2.2.2.1, h.2.1.2.2.2.2.2.2.1, h.2.1.2.2.2.2.2.2.2.1, h.2.1.2.2.2.2.2.2.2.2.1, h.2.1.2.2.2.2.2.2.2.2.2.1, h.2.1.2.2.2.2.2.2.2.2.2.2.1, h.2.1.2.2.2.2.2.2.2.2.2.2.2.1, h.2.1.2.2.2.2.2.2.2.2.2.2.2.2.1, h.2.1.2.2.2.2.2.2.2.2.2.2.2.2.2.1, h.2.1.2.2.2.2.2.2.2.2.2.2.2.2.2.2⟩, ⟨h.2.2.1.1, h.2.2.1.2.1, h.2.2.1.2.2.1, h.2.2.1.2.2.2.1, h.2.2.1.2.2.2.2.1, h.2.2.1.2.2.2.2.2.1, h.2.2.1.2.2.2.2.2.2.1, h.2.2.1.2.2.2.2.2.2.2.1, h.2.2.1.2.2.2.2.2.2.2.2.1, h.2.2.1.2.2.2.2.2.2.2.2.2.1, h.2.2.1.2.2.2.2.2.2.2.2.2.2.1, h.2.2.1.2.2.2.2.2.2.2.2.2.2.2.1, h.2.2.1.2.2.2.2.2.2.2.2.2.2.2.2.1, k.2.1, h.2.2.1.2.2.2.2.2.2.2.2.2.2.2.2.2.2.1, h.2.2.1.2.2.2.2.2.2.2.2.2.2.2.2.2.2.2.1, h.2.2.1.2.2.2.2.2.2.2.2.2.2.2.2.2.2.2.2.1, h.2.2.1.2.2.2.2.2.2.2.2.2.2.2.2.2.2.2.2.2.1, h.2.2.1.2.2.2.2.2.2.2.2.2.2.2.2.2.2.2.2.2.2.1, h.2.2.1.2.2.2.2.2.2.2.2.2.2.2.2.2.2.2.2.2.2.2.1, h.2.2.1.2.2.2.2.2.2.2.2.2.2.2.2.2.2.2.2.2.2.2.2⟩, ⟨h.2.2.2.1, h.2.2.2.2.1, h.2.2.2.2.2.1, k.2.2, h.2.2.2.2.2.2.2.1, h.2.2.2.2.2.2.2.2.1, h.2.2.2.2.2.2.2.2.2.1, h.2.2.2.2.2.2.2.2.2.2⟩⟩⟩
  exact bI_iff ⟨fun r => ⟨r.1, (sAt_i hO).mp r.2⟩, fun r => ⟨r.1, (sAt_i hO).mpr r.2⟩⟩
theorem eq_add {σ : en_m} {n D p : Int} {LW : Int → (Int → Int) → Prop} (h : iV σ n D p LW) {y1 : Int} (g1 : i32 y1) {y2 : Int} (g2 : i32 y2) {y3 : Int} (g3 : i32 y3) {y4 : Int} (g4 : i32 y4) : en_ct z_X11_add [.inr (.inr (r_WA, 0)), .inl y1, .inl y2, .inl y3, .inl y4] σ (fun r σ1 => en_ct z_X12_add [.inr (.inr (r_Md, 0)), .inl y1, .inl y2, .inl y3, .inl y4] σ1 (fun r' σ2 => (∃ v : Int, r = some (.inl v) ∧ r' = some (.inl v)) ∧ iX σ2)) := by
  have hO : sOk n D p := h.2.2.1.1.1
  have hp7 := hO.2.2.2.2.1
  have hp2 := hO.2.2.2.1
  have hS9 := sS_b (k := D + 1) hO
  have hLd := mN_L hO h.2.2.1.2.2.2.2.2.2.2.2.2.2.2.2.2.2.2.2.2.2.2.1
  have bE := h.2.2.2.2.2.2.1
  have mtp : 0 ≤ (σ r_Md_taped) 0 ∧ (σ r_Md_taped) 0 ≤ 2000 := by have q := h.1.2.1; have q2 := h.2.2.2.1; exact ⟨by omega, by omega⟩
  have msz : ∀ k, 0 ≤ k → k ≤ D → 0 ≤ (σ r_Md_sizes) k ∧ (σ r_Md_sizes) k ≤ 256 := fun k a b => by rw [mN_szL h.2.2.1.2.2.2.2.2.2.2.2.2.2.2.2.2.2.2.2.2.2.2.1 a b]; exact szL_b _ hO
  have mlm : 0 ≤ (σ r_Md_laws) ((σ r_Md_live) 0) ∧ (σ r_Md_laws) ((σ r_Md_live) 0) ≤ 8 := by have q := h.1.2.2.2.2.2.2.2.2.2.1.1; have q2 := h.1.2.2.2.2.2.2.2.2.2.2.1; have q3 := h.2.2.2.2.2.2.2.2.2.1; exact ⟨by omega, by omega⟩
  have mld : ∀ i, 0 ≤ i → i < (σ r_Md_laws) ((σ r_Md_live) 0) → (0 ≤ (σ r_Md_lawLength) (8 * (σ r_Md_live) 0 + i) ∧ (σ r_Md_lawLength) (8 * (σ r_Md_live) 0 + i) ≤ D) ∧ (1 ≤ (σ r_Md_lawLength) (8 * (σ r_Md_live) 0 + i) → 0 < n) := fun i a b => eL_e h.2.2.2.2.2.2.2.2.2.2 i a (by have q := h.2.2.2.2.2.2.2.2.2.1; omega)
  refine ct_mono (ct_X11_add σ n D p y1 y2 y3 y4 h.1.1 g1 g2 g3 g4 h.1.2.2.2.2.2.2.2.2.2.2.2.1) ?_
  rintro _ _ ⟨f_Elements_rowsR, rfl, rfl, c1⟩
  refine ct_mono (ct_X12_add _ n D p y1 y2 y3 y4 h.2.2.1.1 h.2.2.1.2.2.2.2.2.2.2.2.2.2.2.2.2.1 h.2.2.1.2.2.2.2.2.1 g1 g2 g3 g4) ?_
  rintro _ _ ⟨f_Md_kept, f_Md_element, rfl, rfl, d1, d2⟩
  have d1 : (R97 f_Md_kept) := d1
  have d2 : (f_Md_element = if ((0 ≤ y1 ∧ y1 ≤ 5) ∧ (0 ≤ y2 ∧ y2 ≤ 5) ∧ (0 ≤ y3 ∧ y3 ≤ 5)) then seg ((σ r_Md_element)) (400 * y1) (sS n D (D + 1)) (fun k => ((σ r_Md_element) (400 * y2 + k) + (y4 % p) * (σ r_Md_element) (400 * y3 + k)) % p) else (σ r_Md_element)) := d2
  have k : R97 f_Elements_rowsR ∧ R97 f_Md_element ∧ eE n D p f_Elements_rowsR f_Md_element := by
    by_cases q : (0 ≤ y1 ∧ y1 ≤ 5) ∧ (0 ≤ y2 ∧ y2 ≤ 5) ∧ (0 ≤ y3 ∧ y3 ≤ 5)
    · rw [if_pos q] at c1 d2
      have em : ∀ z : Int, 0 ≤ z % p ∧ z % p < p := fun z => ⟨Int.emod_nonneg _ (show p ≠ 0 by omega), Int.emod_lt_of_pos _ (show 0 < p by omega)⟩
      refine ⟨?_, ?_, ?_⟩
      · rw [c1]
        exact R97_seg h.1.2.2.2.2.2.2.2.2.2.2.2.1 (fun x _ _ => by have := em (((σ r_Elements_rowsR) (y2 * 364 + x) + (y4 % p) * (σ r_Elements_rowsR) (y3 * 364 + x))); exact ⟨this.1, Int.lt_of_lt_of_le this.2 hp7⟩)
      · rw [d2]
        exact R97_seg h.2.2.1.2.2.2.2.2.2.2.2.2.2.2.2.2.1 (fun x _ _ => by have := em (((σ r_Md_element) (400 * y2 + x) + (y4 % p) * (σ r_Md_element) (400 * y3 + x))); exact ⟨this.1, Int.lt_of_lt_of_le this.2 hp7⟩)
      · refine eE_set hO bE q.1 c1 (fun x a b => ?_) (fun x a => ?_) (fun x a b => (em _).2) (fun x a b => ?_)
        · rw [d2, seg_in ⟨a, b⟩]
          show ((σ r_Md_element) (400 * y2 + x) + (y4 % p) * (σ r_Md_element) (400 * y3 + x)) % p = ((σ r_Elements_rowsR) (y2 * 364 + x) + (y4 % p) * (σ r_Elements_rowsR) (y3 * 364 + x)) % p
          rw [bE.1 y2 x q.2.1 ⟨a, b⟩, bE.1 y3 x q.2.2 ⟨a, b⟩]
        · rw [d2, seg_out (by omega)]
        · show ((σ r_Elements_rowsR) (y2 * 364 + x) + (y4 % p) * (σ r_Elements_rowsR) (y3 * 364 + x)) % p = 0
          rw [bE.2.2 y2 x q.2.1 a b, bE.2.2 y3 x q.2.2 a b, Int.mul_zero, Int.add_zero, Int.zero_emod]
    · rw [if_neg q] at c1 d2
      rw [c1, d2]
      exact ⟨h.1.2.2.2.2.2.2.2.2.2.2.2.1, h.2.2.1.2.2.2.2.2.2.2.2.2.2.2.2.2.1, bE⟩
  refine ⟨ans ?_, n, D, p, LW, ⟨⟨h.1.1, h.1.2.1, h.1.2.2.1, h.1.2.2.2.1, h.1.2.2.2.2.1, h.1.2.2.2.2.2.1, h.1.2.2.2.2.2.2.1, h.1.2.2.2.2.2.2.2.1, h.1.2.2.2.2.2.2.2.2.1, h.1.2.2.2.2.2.2.2.2.2.1, h.1.2.2.2.2.2.2.2.2.2.2.1, k.1, h.1.2.2.2.2.2.2.2.2.2.2.2.2.1, h.1.2.2.2.2.2.2.2.2.2.2.2.2.2.1, h.1.2.2.2.2.2.2.2.2.2.2.2.2.2.2.1, h.1.2.2.2.2.2.2.2.2.2.2.2.2.2.2.2.1, h.1.2.2.2.2.2.2.2.2.2.2.2.2.2.2.2.2.1, h.1.2.2.2.2.2.2.2.2.2.2.2.2.2.2.2.2.2.1, h.1.2.2.2.2.2.2.2.2.2.2.2.2.2.2.2.2.2.2⟩, ⟨h.2.1.1, h.2.1.2.1, h.2.1.2.2.1, h.2.1.2.2.2.1, h.2.1.2.2.2.2.1, h.2.1.2.2.2.2.2.1, h.2.1.2.2.2.2.2.2.1, h.2.1.2.2.2.2.2.2.2.1, h.2.1.2.2.2.2.2.2.2.2.1, h.2.1.2.2.2.2.2.2.2.2.2.1, h.2.1.2.2.2.2.2.2.2.2.2.2.1, h.2.1.2.2.2.2.2.2.2.2.2.2.2.1, h.2.1.2.2.2.2.2.2.2.2.2.2.2.2.1, h.2.1.2.2.2.2.2.2.2.2.2.2.2.2.2.1, h.2.1.2.2.2.2.2.2.2.2.2.2.2.2.2.2⟩, ⟨h.2.2.1.1, h.2.2.1.2.1, h.2.2.1.2.2.1, h.2.2.1.2.2.2.1, h.2.2.1.2.2.2.2.1, d1, h.2.2.1.2.2.2.2.2.2.1, h.2.2.1.2.2.2.2.2.2.2.1, h.2.2.1.2.2.2.2.2.2.2.2.1, h.2.2.1.2.2.2.2.2.2.2.2.2.1, h.2.2.1.2.2.2.2.2.2.2.2.2.2.1, h.2.2.1.2.2.2.2.2.2.2.2.2.2.2.1, h.2.2.1.2.2.2.2.2.2.2.2.2.2.2.2.1, k.2.1, h.2.2.1.2.2.2.2.2.2.2.2.2.2.2.2.2.2.1, h.2.2.1.2.2.2.2.2.2.2.2.2.2.2.2.2.2.2.1, h.2.2.1.2.2.2.2.2.2.2.2.2.2.2.2.2.2.2.2.1, h.2.2.1.2.2.2.2.2.2.2.2.2.2.2.2.2.2.2.2.2.1, h.2.2.1.2.2.2.2.2.2.2.2.2.2.2.2.2.2.2.2.2.2.1, h.2.2.1.2.2.2.2.2.2.2.2.2.2.2.2.2.2.2.2.2.2.2.1, h.2.2.1.2.2.2.2.2.2.2.2.2.2.2.2.2.2.2.2.2.2.2.2⟩, ⟨h.2.2.2.1, h.2.2.2.2.1, h.2.2.2.2.2.1, k.2.2, h.2.2.2.2.2.2.2.1, h.2.2.2.2.2.2.2.2.1, h.2.2.2.2.2.2.2.2.2.1, h.2.2.2.2.2.2.2.2.2.2⟩⟩⟩
  rfl
theorem eq_multiply {σ : en_m} {n D p : Int} {LW : Int → (Int → Int) → Prop} (h : iV σ n D p LW) {y1 : Int} (g1 : i32 y1) {y2 : Int} (g2 : i32 y2) {y3 : Int} (g3 : i32 y3) : en_ct z_X11_multiply [.inr (.inr (r_WA, 0)), .inl y1, .inl y2, .inl y3] σ (fun r σ1 => en_ct z_X12_multiply [.inr (.inr (r_Md, 0)), .inl y1, .inl y2, .inl y3] σ1 (fun r' σ2 => (∃ v : Int, r = some (.inl v) ∧ r' = some (.inl v)) ∧ iX σ2)) := by
  have hO : sOk n D p := h.2.2.1.1.1
  have hp7 := hO.2.2.2.2.1
  have hp2 := hO.2.2.2.1
  have hS9 := sS_b (k := D + 1) hO
  have hLd := mN_L hO h.2.2.1.2.2.2.2.2.2.2.2.2.2.2.2.2.2.2.2.2.2.2.1
  have bE := h.2.2.2.2.2.2.1
  have mtp : 0 ≤ (σ r_Md_taped) 0 ∧ (σ r_Md_taped) 0 ≤ 2000 := by have q := h.1.2.1; have q2 := h.2.2.2.1; exact ⟨by omega, by omega⟩
  have msz : ∀ k, 0 ≤ k → k ≤ D → 0 ≤ (σ r_Md_sizes) k ∧ (σ r_Md_sizes) k ≤ 256 := fun k a b => by rw [mN_szL h.2.2.1.2.2.2.2.2.2.2.2.2.2.2.2.2.2.2.2.2.2.2.1 a b]; exact szL_b _ hO
  have mlm : 0 ≤ (σ r_Md_laws) ((σ r_Md_live) 0) ∧ (σ r_Md_laws) ((σ r_Md_live) 0) ≤ 8 := by have q := h.1.2.2.2.2.2.2.2.2.2.1.1; have q2 := h.1.2.2.2.2.2.2.2.2.2.2.1; have q3 := h.2.2.2.2.2.2.2.2.2.1; exact ⟨by omega, by omega⟩
  have mld : ∀ i, 0 ≤ i → i < (σ r_Md_laws) ((σ r_Md_live) 0) → (0 ≤ (σ r_Md_lawLength) (8 * (σ r_Md_live) 0 + i) ∧ (σ r_Md_lawLength) (8 * (σ r_Md_live) 0 + i) ≤ D) ∧ (1 ≤ (σ r_Md_lawLength) (8 * (σ r_Md_live) 0 + i) → 0 < n) := fun i a b => eL_e h.2.2.2.2.2.2.2.2.2.2 i a (by have q := h.2.2.2.2.2.2.2.2.2.1; omega)
  refine ct_mono (ct_X11_multiply σ n D p y1 y2 y3 h.1.1 g1 g2 g3 h.1.2.2.2.2.2.2.2.2.2.2.2.1 h.1.2.2.2.2.2.2.2.2.2.2.2.2.1) ?_
  rintro _ _ ⟨f_Elements_spare, f_Elements_rowsR, rr1, rfl, rfl, c1, c2⟩
  refine ct_mono (ct_X12_multiply _ n D p y1 y2 y3 h.2.2.1.1 g1 g2 g3 h.2.2.1.2.2.2.2.2.2.2.2.2.2.2.2.2.1 h.2.2.1.2.2.2.2.1) ?_
  rintro _ _ ⟨f_Md_made, f_Md_element, rr2, rfl, rfl, d1, d2⟩
  have d1 : ((¬ ((0 ≤ y1 ∧ y1 ≤ 5) ∧ (0 ≤ y2 ∧ y2 ≤ 5) ∧ (0 ≤ y3 ∧ y3 ≤ 5)) ∧ rr2 = -1 ∧ f_Md_element = (σ r_Md_element)) ∨ (((0 ≤ y1 ∧ y1 ≤ 5) ∧ (0 ≤ y2 ∧ y2 ≤ 5) ∧ (0 ≤ y3 ∧ y3 ≤ 5)) ∧ (0 ≤ sG (fun k => (σ r_Md_element) (400 * y2 + k)) (sS n D (D + 1)).toNat ∧ 0 ≤ sG (fun k => (σ r_Md_element) (400 * y3 + k)) (sS n D (D + 1)).toNat ∧ D < sL n D (sG (fun k => (σ r_Md_element) (400 * y2 + k)) (sS n D (D + 1)).toNat) + sL n D (sG (fun k => (σ r_Md_element) (400 * y3 + k)) (sS n D (D + 1)).toNat)) ∧ rr2 = -2 ∧ f_Md_element = (σ r_Md_element)) ∨ (((0 ≤ y1 ∧ y1 ≤ 5) ∧ (0 ≤ y2 ∧ y2 ≤ 5) ∧ (0 ≤ y3 ∧ y3 ≤ 5)) ∧ ¬ (0 ≤ sG (fun k => (σ r_Md_element) (400 * y2 + k)) (sS n D (D + 1)).toNat ∧ 0 ≤ sG (fun k => (σ r_Md_element) (400 * y3 + k)) (sS n D (D + 1)).toNat ∧ D < sL n D (sG (fun k => (σ r_Md_element) (400 * y2 + k)) (sS n D (D + 1)).toNat) + sL n D (sG (fun k => (σ r_Md_element) (400 * y3 + k)) (sS n D (D + 1)).toNat)) ∧ rr2 = 0 ∧ f_Md_element = seg ((σ r_Md_element)) (400 * y1) (sS n D (D + 1)) (fun x => prd n D (fun x => (σ r_Md_element) (400 * y2 + x)) (fun x => (σ r_Md_element) (400 * y3 + x)) x % p))) := d1
  have d2 : (R97 f_Md_made) := d2
  have k : rr1 = rr2 ∧ R97 f_Elements_rowsR ∧ R97 f_Md_element ∧ eE n D p f_Elements_rowsR f_Md_element := by
    rcases c1 with ⟨t1, r1, e1⟩ | ⟨t1, l1, r1, e1⟩ | ⟨t1, l1, r1, P, e1, e2, e3⟩
    · rcases d1 with ⟨t2, r2, f2⟩ | ⟨t2, l2, r2, f2⟩ | ⟨t2, l2, r2, f2⟩
      · rw [e1, f2]
        exact ⟨by omega, h.1.2.2.2.2.2.2.2.2.2.2.2.1, h.2.2.1.2.2.2.2.2.2.2.2.2.2.2.2.2.1, bE⟩
      · exact absurd t2 t1
      · exact absurd t2 t1
    · rw [eE_G bE t1.2.1, eE_G bE t1.2.2, tl_i (sG_bb hO).1 (sG_bb hO).1 (sL_b _ _ _).1 (sL_b _ _ _).1] at l1
      rcases d1 with ⟨t2, r2, f2⟩ | ⟨t2, l2, r2, f2⟩ | ⟨t2, l2, r2, f2⟩
      · exact absurd t1 t2
      · rw [e1, f2]
        exact ⟨by omega, h.1.2.2.2.2.2.2.2.2.2.2.2.1, h.2.2.1.2.2.2.2.2.2.2.2.2.2.2.2.2.1, bE⟩
      · exact absurd l1 l2
    · rw [eE_G bE t1.2.1, eE_G bE t1.2.2, tl_i (sG_bb hO).1 (sG_bb hO).1 (sL_b _ _ _).1 (sL_b _ _ _).1] at l1
      rcases d1 with ⟨t2, r2, f2⟩ | ⟨t2, l2, r2, f2⟩ | ⟨t2, l2, r2, f2⟩
      · exact absurd t1 t2
      · exact absurd l2 l1
      · have em : ∀ z : Int, 0 ≤ z % p ∧ z % p < p := fun z => ⟨Int.emod_nonneg _ (show p ≠ 0 by omega), Int.emod_lt_of_pos _ (show 0 < p by omega)⟩
        refine ⟨by omega, ?_, ?_, ?_⟩
        · rw [e1]
          exact R97_seg h.1.2.2.2.2.2.2.2.2.2.2.2.1 (fun x a b => by
            rcases Int.lt_or_le x (sS n D (D + 1)) with w | w
            · have := (e2 x a w).1
              exact ⟨this.1, Int.lt_of_lt_of_le this.2 hp7⟩
            · rw [e3 x w b]; decide)
        · rw [f2]
          exact R97_seg h.2.2.1.2.2.2.2.2.2.2.2.2.2.2.2.2.1 (fun x _ _ => ⟨(em _).1, Int.lt_of_lt_of_le (em _).2 hp7⟩)
        · refine eE_set hO bE t1.1 e1 (fun x a b => ?_) (fun x a => ?_) (fun x a b => (e2 x a b).1.2) e3
          · rw [f2, seg_in ⟨a, b⟩]
            have g := mE_mod (e2 x a b).2
            rw [Int.emod_eq_of_lt (e2 x a b).1.1 (e2 x a b).1.2] at g
            rw [g, Int.zero_mul, Int.sub_zero, prd_f hO (eE_r bE t1.2.1) (eE_r bE t1.2.2)]
          · rw [f2, seg_out (by omega)]
  refine ⟨ans ?_, n, D, p, LW, ⟨⟨h.1.1, h.1.2.1, h.1.2.2.1, h.1.2.2.2.1, h.1.2.2.2.2.1, h.1.2.2.2.2.2.1, h.1.2.2.2.2.2.2.1, h.1.2.2.2.2.2.2.2.1, h.1.2.2.2.2.2.2.2.2.1, h.1.2.2.2.2.2.2.2.2.2.1, h.1.2.2.2.2.2.2.2.2.2.2.1, k.2.1, c2, h.1.2.2.2.2.2.2.2.2.2.2.2.2.2.1, h.1.2.2.2.2.2.2.2.2.2.2.2.2.2.2.1, h.1.2.2.2.2.2.2.2.2.2.2.2.2.2.2.2.1, h.1.2.2.2.2.2.2.2.2.2.2.2.2.2.2.2.2.1, h.1.2.2.2.2.2.2.2.2.2.2.2.2.2.2.2.2.2.1, h.1.2.2.2.2.2.2.2.2.2.2.2.2.2.2.2.2.2.2⟩, ⟨h.2.1.1, h.2.1.2.1, h.2.1.2.2.1, h.2.1.2.2.2.1, h.2.1.2.2.2.2.1, h.2.1.2.2.2.2.2.1, h.2.1.2.2.2.2.2.2.1, h.2.1.2.2.2.2.2.2.2.1, h.2.1.2.2.2.2.2.2.2.2.1, h.2.1.2.2.2.2.2.2.2.2.2.1, h.2.1.2.2.2.2.2.2.2.2.2.2.1, h.2.1.2.2.2.2.2.2.2.2.2.2.2.1, h.2.1.2.2.2.2.2.2.2.2.2.2.2.2.1, h.2.1.2.2.2.2.2.2.2.2.2.2.2.2.2.1, h.2.1.2.2.2.2.2.2.2.2.2.2.2.2.2.2⟩, ⟨h.2.2.1.1, h.2.2.1.2.1, h.2.2.1.2.2.1, h.2.2.1.2.2.2.1, d2, h.2.2.1.2.2.2.2.2.1, h.2.2.1.2.2.2.2.2.2.1, h.2.2.1.2.2.2.2.2.2.2.1, h.2.2.1.2.2.2.2.2.2.2.2.1, h.2.2.1.2.2.2.2.2.2.2.2.2.1, h.2.2.1.2.2.2.2.2.2.2.2.2.2.1, h.2.2.1.2.2.2.2.2.2.2.2.2.2.2.1, h.2.2.1.2.2.2.2.2.2.2.2.2.2.2.2.1, k.2.2.1, h.2.2.1.2.2.2.2.2.2.2.2.2.2.2.2.2.2.1, h.2.2.1.2.2.2.2.2.2.2.2.2.2.2.2.2.2.2.1, h.2.2.1.2.2.2.2.2.2.2.2.2.2.2.2.2.2.2.2.1, h.2.2.1.2.2.2.2.2.2.2.2.2.2.2.2.2.2.2.2.2.1, h.2.2.1.2.2.2.2.2.2.2.2.2.2.2.2.2.2.2.2.2.2.1, h.2.2.1.2.2.2.2.2.2.2.2.2.2.2.2.2.2.2.2.2.2.2.1, h.2.2.1.2.2.2.2.2.2.2.2.2.2.2.2.2.2.2.2.2.2.2.2⟩, ⟨h.2.2.2.1, h.2.2.2.2.1, h.2.2.2.2.2.1, k.2.2.2, h.2.2.2.2.2.2.2.1, h.2.2.2.2.2.2.2.2.1, h.2.2.2.2.2.2.2.2.2.1, h.2.2.2.2.2.2.2.2.2.2⟩⟩⟩
  exact k.1
theorem eq_commute {σ : en_m} {n D p : Int} {LW : Int → (Int → Int) → Prop} (h : iV σ n D p LW) {y1 : Int} (g1 : i32 y1) {y2 : Int} (g2 : i32 y2) {y3 : Int} (g3 : i32 y3) : en_ct z_X11_commute [.inr (.inr (r_WA, 0)), .inl y1, .inl y2, .inl y3] σ (fun r σ1 => en_ct z_X12_commute [.inr (.inr (r_Md, 0)), .inl y1, .inl y2, .inl y3] σ1 (fun r' σ2 => (∃ v : Int, r = some (.inl v) ∧ r' = some (.inl v)) ∧ iX σ2)) := by
  have hO : sOk n D p := h.2.2.1.1.1
  have hp7 := hO.2.2.2.2.1
  have hp2 := hO.2.2.2.1
  have hS9 := sS_b (k := D + 1) hO
  have hLd := mN_L hO h.2.2.1.2.2.2.2.2.2.2.2.2.2.2.2.2.2.2.2.2.2.2.1
  have bE := h.2.2.2.2.2.2.1
  have mtp : 0 ≤ (σ r_Md_taped) 0 ∧ (σ r_Md_taped) 0 ≤ 2000 := by have q := h.1.2.1; have q2 := h.2.2.2.1; exact ⟨by omega, by omega⟩
  have msz : ∀ k, 0 ≤ k → k ≤ D → 0 ≤ (σ r_Md_sizes) k ∧ (σ r_Md_sizes) k ≤ 256 := fun k a b => by rw [mN_szL h.2.2.1.2.2.2.2.2.2.2.2.2.2.2.2.2.2.2.2.2.2.2.1 a b]; exact szL_b _ hO
  have mlm : 0 ≤ (σ r_Md_laws) ((σ r_Md_live) 0) ∧ (σ r_Md_laws) ((σ r_Md_live) 0) ≤ 8 := by have q := h.1.2.2.2.2.2.2.2.2.2.1.1; have q2 := h.1.2.2.2.2.2.2.2.2.2.2.1; have q3 := h.2.2.2.2.2.2.2.2.2.1; exact ⟨by omega, by omega⟩
  have mld : ∀ i, 0 ≤ i → i < (σ r_Md_laws) ((σ r_Md_live) 0) → (0 ≤ (σ r_Md_lawLength) (8 * (σ r_Md_live) 0 + i) ∧ (σ r_Md_lawLength) (8 * (σ r_Md_live) 0 + i) ≤ D) ∧ (1 ≤ (σ r_Md_lawLength) (8 * (σ r_Md_live) 0 + i) → 0 < n) := fun i a b => eL_e h.2.2.2.2.2.2.2.2.2.2 i a (by have q := h.2.2.2.2.2.2.2.2.2.1; omega)
  refine ct_mono (ct_X11_commute σ n D p y1 y2 y3 h.1.1 g1 g2 g3 h.1.2.2.2.2.2.2.2.2.2.2.2.1 h.1.2.2.2.2.2.2.2.2.2.2.2.2.1) ?_
  rintro _ _ ⟨f_Elements_spare, f_Elements_rowsR, rr1, rfl, rfl, c1, c2⟩
  refine ct_mono (ct_X12_commute _ n D p y1 y2 y3 h.2.2.1.1 g1 g2 g3 h.2.2.1.2.2.2.2.2.2.2.2.2.2.2.2.2.1 h.2.2.1.2.2.2.2.1 h.2.2.1.2.2.2.2.2.1) ?_
  rintro _ _ ⟨f_Md_made, f_Md_kept, f_Md_element, rr2, rfl, rfl, d1, d2, d3⟩
  have d1 : ((¬ ((0 ≤ y1 ∧ y1 ≤ 5) ∧ (0 ≤ y2 ∧ y2 ≤ 5) ∧ (0 ≤ y3 ∧ y3 ≤ 5)) ∧ rr2 = -1 ∧ f_Md_element = (σ r_Md_element)) ∨ (((0 ≤ y1 ∧ y1 ≤ 5) ∧ (0 ≤ y2 ∧ y2 ≤ 5) ∧ (0 ≤ y3 ∧ y3 ≤ 5)) ∧ (0 ≤ sG (fun k => (σ r_Md_element) (400 * y2 + k)) (sS n D (D + 1)).toNat ∧ 0 ≤ sG (fun k => (σ r_Md_element) (400 * y3 + k)) (sS n D (D + 1)).toNat ∧ D < sL n D (sG (fun k => (σ r_Md_element) (400 * y2 + k)) (sS n D (D + 1)).toNat) + sL n D (sG (fun k => (σ r_Md_element) (400 * y3 + k)) (sS n D (D + 1)).toNat)) ∧ rr2 = -2 ∧ f_Md_element = (σ r_Md_element)) ∨ (((0 ≤ y1 ∧ y1 ≤ 5) ∧ (0 ≤ y2 ∧ y2 ≤ 5) ∧ (0 ≤ y3 ∧ y3 ≤ 5)) ∧ ¬ (0 ≤ sG (fun k => (σ r_Md_element) (400 * y2 + k)) (sS n D (D + 1)).toNat ∧ 0 ≤ sG (fun k => (σ r_Md_element) (400 * y3 + k)) (sS n D (D + 1)).toNat ∧ D < sL n D (sG (fun k => (σ r_Md_element) (400 * y2 + k)) (sS n D (D + 1)).toNat) + sL n D (sG (fun k => (σ r_Md_element) (400 * y3 + k)) (sS n D (D + 1)).toNat)) ∧ rr2 = 0 ∧ f_Md_element = seg ((σ r_Md_element)) (400 * y1) (sS n D (D + 1)) (fun x => (prd n D (fun x => (σ r_Md_element) (400 * y2 + x)) (fun x => (σ r_Md_element) (400 * y3 + x)) x - prd n D (fun x => (σ r_Md_element) (400 * y3 + x)) (fun x => (σ r_Md_element) (400 * y2 + x)) x) % p))) := d1
  have d2 : (R97 f_Md_made) := d2
  have d3 : (R97 f_Md_kept) := d3
  have k : rr1 = rr2 ∧ R97 f_Elements_rowsR ∧ R97 f_Md_element ∧ eE n D p f_Elements_rowsR f_Md_element := by
    rcases c1 with ⟨t1, r1, e1⟩ | ⟨t1, l1, r1, e1⟩ | ⟨t1, l1, r1, P, e1, e2, e3⟩
    · rcases d1 with ⟨t2, r2, f2⟩ | ⟨t2, l2, r2, f2⟩ | ⟨t2, l2, r2, f2⟩
      · rw [e1, f2]
        exact ⟨by omega, h.1.2.2.2.2.2.2.2.2.2.2.2.1, h.2.2.1.2.2.2.2.2.2.2.2.2.2.2.2.2.1, bE⟩
      · exact absurd t2 t1
      · exact absurd t2 t1
    · rw [eE_G bE t1.2.1, eE_G bE t1.2.2, tl_i (sG_bb hO).1 (sG_bb hO).1 (sL_b _ _ _).1 (sL_b _ _ _).1] at l1
      rcases d1 with ⟨t2, r2, f2⟩ | ⟨t2, l2, r2, f2⟩ | ⟨t2, l2, r2, f2⟩
      · exact absurd t1 t2
      · rw [e1, f2]
        exact ⟨by omega, h.1.2.2.2.2.2.2.2.2.2.2.2.1, h.2.2.1.2.2.2.2.2.2.2.2.2.2.2.2.2.1, bE⟩
      · exact absurd l1 l2
    · rw [eE_G bE t1.2.1, eE_G bE t1.2.2, tl_i (sG_bb hO).1 (sG_bb hO).1 (sL_b _ _ _).1 (sL_b _ _ _).1] at l1
      rcases d1 with ⟨t2, r2, f2⟩ | ⟨t2, l2, r2, f2⟩ | ⟨t2, l2, r2, f2⟩
      · exact absurd t1 t2
      · exact absurd l2 l1
      · have em : ∀ z : Int, 0 ≤ z % p ∧ z % p < p := fun z => ⟨Int.emod_nonneg _ (show p ≠ 0 by omega), Int.emod_lt_of_pos _ (show 0 < p by omega)⟩
        refine ⟨by omega, ?_, ?_, ?_⟩
        · rw [e1]
          exact R97_seg h.1.2.2.2.2.2.2.2.2.2.2.2.1 (fun x a b => by
            rcases Int.lt_or_le x (sS n D (D + 1)) with w | w
            · have := (e2 x a w).1
              exact ⟨this.1, Int.lt_of_lt_of_le this.2 hp7⟩
            · rw [e3 x w b]; decide)
        · rw [f2]
          exact R97_seg h.2.2.1.2.2.2.2.2.2.2.2.2.2.2.2.2.1 (fun x _ _ => ⟨(em _).1, Int.lt_of_lt_of_le (em _).2 hp7⟩)
        · refine eE_set hO bE t1.1 e1 (fun x a b => ?_) (fun x a => ?_) (fun x a b => (e2 x a b).1.2) e3
          · rw [f2, seg_in ⟨a, b⟩]
            have g := mE_mod (e2 x a b).2
            rw [Int.emod_eq_of_lt (e2 x a b).1.1 (e2 x a b).1.2] at g
            rw [g, Int.one_mul, prd_f hO (eE_r bE t1.2.1) (eE_r bE t1.2.2), prd_f hO (eE_r bE t1.2.2) (eE_r bE t1.2.1)]
          · rw [f2, seg_out (by omega)]
  refine ⟨ans ?_, n, D, p, LW, ⟨⟨h.1.1, h.1.2.1, h.1.2.2.1, h.1.2.2.2.1, h.1.2.2.2.2.1, h.1.2.2.2.2.2.1, h.1.2.2.2.2.2.2.1, h.1.2.2.2.2.2.2.2.1, h.1.2.2.2.2.2.2.2.2.1, h.1.2.2.2.2.2.2.2.2.2.1, h.1.2.2.2.2.2.2.2.2.2.2.1, k.2.1, c2, h.1.2.2.2.2.2.2.2.2.2.2.2.2.2.1, h.1.2.2.2.2.2.2.2.2.2.2.2.2.2.2.1, h.1.2.2.2.2.2.2.2.2.2.2.2.2.2.2.2.1, h.1.2.2.2.2.2.2.2.2.2.2.2.2.2.2.2.2.1, h.1.2.2.2.2.2.2.2.2.2.2.2.2.2.2.2.2.2.1, h.1.2.2.2.2.2.2.2.2.2.2.2.2.2.2.2.2.2.2⟩, ⟨h.2.1.1, h.2.1.2.1, h.2.1.2.2.1, h.2.1.2.2.2.1, h.2.1.2.2.2.2.1, h.2.1.2.2.2.2.2.1, h.2.1.2.2.2.2.2.2.1, h.2.1.2.2.2.2.2.2.2.1, h.2.1.2.2.2.2.2.2.2.2.1, h.2.1.2.2.2.2.2.2.2.2.2.1, h.2.1.2.2.2.2.2.2.2.2.2.2.1, h.2.1.2.2.2.2.2.2.2.2.2.2.2.1, h.2.1.2.2.2.2.2.2.2.2.2.2.2.2.1, h.2.1.2.2.2.2.2.2.2.2.2.2.2.2.2.1, h.2.1.2.2.2.2.2.2.2.2.2.2.2.2.2.2⟩, ⟨h.2.2.1.1, h.2.2.1.2.1, h.2.2.1.2.2.1, h.2.2.1.2.2.2.1, d2, d3, h.2.2.1.2.2.2.2.2.2.1, h.2.2.1.2.2.2.2.2.2.2.1, h.2.2.1.2.2.2.2.2.2.2.2.1, h.2.2.1.2.2.2.2.2.2.2.2.2.1, h.2.2.1.2.2.2.2.2.2.2.2.2.2.1, h.2.2.1.2.2.2.2.2.2.2.2.2.2.2.1, h.2.2.1.2.2.2.2.2.2.2.2.2.2.2.2.1, k.2.2.1, h.2.2.1.2.2.2.2.2.2.2.2.2.2.2.2.2.2.1, h.2.2.1.2.2.2.2.2.2.2.2.2.2.2.2.2.2.2.1, h.2.2.1.2.2.2.2.2.2.2.2.2.2.2.2.2.2.2.2.1, h.2.2.1.2.2.2.2.2.2.2.2.2.2.2.2.2.2.2.2.2.1, h.2.2.1.2.2.2.2.2.2.2.2.2.2.2.2.2.2.2.2.2.2.1, h.2.2.1.2.2.2.2.2.2.2.2.2.2.2.2.2.2.2.2.2.2.2.1, h.2.2.1.2.2.2.2.2.2.2.2.2.2.2.2.2.2.2.2.2.2.2.2⟩, ⟨h.2.2.2.1, h.2.2.2.2.1, h.2.2.2.2.2.1, k.2.2.2, h.2.2.2.2.2.2.2.1, h.2.2.2.2.2.2.2.2.1, h.2.2.2.2.2.2.2.2.2.1, h.2.2.2.2.2.2.2.2.2.2⟩⟩⟩
  exact k.1
theorem eq_plain {σ : en_m} {n D p : Int} {LW : Int → (Int → Int) → Prop} (h : iV σ n D p LW) {y1 : Int} (g1 : i32 y1) : en_ct z_X11_plain [.inr (.inr (r_WA, 0)), .inl y1] σ (fun r σ1 => en_ct z_X12_plain [.inr (.inr (r_Md, 0)), .inl y1] σ1 (fun r' σ2 => (∃ v : Int, r = some (.inl v) ∧ r' = some (.inl v)) ∧ iX σ2)) := by
  have hO : sOk n D p := h.2.2.1.1.1
  have hp7 := hO.2.2.2.2.1
  have hp2 := hO.2.2.2.1
  have hS9 := sS_b (k := D + 1) hO
  have hLd := mN_L hO h.2.2.1.2.2.2.2.2.2.2.2.2.2.2.2.2.2.2.2.2.2.2.1
  have bE := h.2.2.2.2.2.2.1
  have mtp : 0 ≤ (σ r_Md_taped) 0 ∧ (σ r_Md_taped) 0 ≤ 2000 := by have q := h.1.2.1; have q2 := h.2.2.2.1; exact ⟨by omega, by omega⟩
  have msz : ∀ k, 0 ≤ k → k ≤ D → 0 ≤ (σ r_Md_sizes) k ∧ (σ r_Md_sizes) k ≤ 256 := fun k a b => by rw [mN_szL h.2.2.1.2.2.2.2.2.2.2.2.2.2.2.2.2.2.2.2.2.2.2.1 a b]; exact szL_b _ hO
  have mlm : 0 ≤ (σ r_Md_laws) ((σ r_Md_live) 0) ∧ (σ r_Md_laws) ((σ r_Md_live) 0) ≤ 8 := by have q := h.1.2.2.2.2.2.2.2.2.2.1.1; have q2 := h.1.2.2.2.2.2.2.2.2.2.2.1; have q3 := h.2.2.2.2.2.2.2.2.2.1; exact ⟨by omega, by omega⟩
  have mld : ∀ i, 0 ≤ i → i < (σ r_Md_laws) ((σ r_Md_live) 0) → (0 ≤ (σ r_Md_lawLength) (8 * (σ r_Md_live) 0 + i) ∧ (σ r_Md_lawLength) (8 * (σ r_Md_live) 0 + i) ≤ D) ∧ (1 ≤ (σ r_Md_lawLength) (8 * (σ r_Md_live) 0 + i) → 0 < n) := fun i a b => eL_e h.2.2.2.2.2.2.2.2.2.2 i a (by have q := h.2.2.2.2.2.2.2.2.2.1; omega)
  refine ct_mono (ct_X11_plain σ n D p LW y1 h.1.1 g1 h.1.2.2.2.2.2.2.2.2.2.2.2.1 h.2.2.2.2.2.2.1.2.1 h.1.2.2.2.2.2.2.2.2.2.2.2.2.1 h.1.2.2.2.2.2.2.2.2.2.2.2.2.2.2.2.1 h.1.2.2.2.2.2.2.2.2.2.1 h.1.2.2.2.2.2.2.2.2.2.2.2.2.2.2.2.2.1) ?_
  rintro _ _ ⟨f_Nought0_row, f_Nought0_reduced, f_Nought0_leading, f_Nought0_forms, f_Nought0_formStart, f_Nought0_sizes, v_Nought0_reached, f_Elements_spare, f_Elements_rowsR, rr1, rfl, rfl, c1, c2, c3⟩
  refine ct_mono (ct_X12_plain _ n D p LW y1 h.2.2.1.1 g1 h.2.2.1.2.2.2.2.2.2.2.2.2.2.2.2.2.1 (eE_o h.2.2.2.2.2.2.1) h.2.2.1.2.2.2.2.2.2.1 h.2.2.1.2.2.2.2.2.2.2.2.2.2.2.2.2.2.2.2.2.2.2.1) ?_
  rintro _ _ ⟨f_Md_row, f_Md_element, rr2, rfl, rfl, d1, d2, d3⟩
  have d1 : (if (0 ≤ y1 ∧ y1 ≤ 5) then nfR n D p LW (fun x => (σ r_Md_element) (400 * y1 + x)) (fun x => f_Md_element (400 * y1 + x)) ∧ (∀ x, (x < 400 * y1 ∨ 400 * y1 + sS n D (D + 1) ≤ x) → f_Md_element x = (σ r_Md_element) x) ∧ (∀ x, 0 ≤ x → x < sS n D (D + 1) → f_Md_element (400 * y1 + x) < p) ∧ rr2 = sC (fun k => f_Md_element (400 * y1 + k)) (sS n D (D + 1)).toNat else f_Md_element = (σ r_Md_element) ∧ rr2 = -1) := d1
  have d2 : (R97 f_Md_row) := d2
  have d3 : (R97 f_Md_element) := d3
  have k : rr1 = rr2 ∧ R97 f_Elements_rowsR ∧ eE n D p f_Elements_rowsR f_Md_element := by
    by_cases q : 0 ≤ y1 ∧ y1 ≤ 5
    · rw [if_pos q] at c1 d1
      obtain ⟨P, e1, e2, e3, e4, e5, e6⟩ := c1
      obtain ⟨u1, u2, u3, u4⟩ := d1
      have kE : eE n D p f_Elements_rowsR f_Md_element := eE_set hO bE q e1 (fun x a b => (nfR_uniq hO (by omega) (fun x a b => mE_of (bE.1 y1 x q ⟨a, b⟩)) e2 u1 x a b).symm) (fun x a => u2 x (by omega)) e5 e3
      refine ⟨?_, ?_, kE⟩
      · rw [e6, u4]
        exact eE_C hO kE q
      · rw [e1]
        exact R97_seg h.1.2.2.2.2.2.2.2.2.2.2.2.1 (fun x _ _ => e4 x)
    · rw [if_neg q] at c1 d1
      rw [c1.2, d1.1]
      exact ⟨by rw [c1.1, d1.2], h.1.2.2.2.2.2.2.2.2.2.2.2.1, bE⟩
  refine ⟨ans ?_, n, D, p, LW, ⟨⟨h.1.1, h.1.2.1, h.1.2.2.1, h.1.2.2.2.1, h.1.2.2.2.2.1, h.1.2.2.2.2.2.1, h.1.2.2.2.2.2.2.1, h.1.2.2.2.2.2.2.2.1, h.1.2.2.2.2.2.2.2.2.1, h.1.2.2.2.2.2.2.2.2.2.1, h.1.2.2.2.2.2.2.2.2.2.2.1, k.2.1, c3, h.1.2.2.2.2.2.2.2.2.2.2.2.2.2.1, h.1.2.2.2.2.2.2.2.2.2.2.2.2.2.2.1, c2, h.1.2.2.2.2.2.2.2.2.2.2.2.2.2.2.2.2.1, h.1.2.2.2.2.2.2.2.2.2.2.2.2.2.2.2.2.2.1, h.1.2.2.2.2.2.2.2.2.2.2.2.2.2.2.2.2.2.2⟩, ⟨h.2.1.1, h.2.1.2.1, h.2.1.2.2.1, h.2.1.2.2.2.1, h.2.1.2.2.2.2.1, h.2.1.2.2.2.2.2.1, h.2.1.2.2.2.2.2.2.1, h.2.1.2.2.2.2.2.2.2.1, h.2.1.2.2.2.2.2.2.2.2.1, h.2.1.2.2.2.2.2.2.2.2.2.1, h.2.1.2.2.2.2.2.2.2.2.2.2.1, h.2.1.2.2.2.2.2.2.2.2.2.2.2.1, h.2.1.2.2.2.2.2.2.2.2.2.2.2.2.1, h.2.1.2.2.2.2.2.2.2.2.2.2.2.2.2.1, h.2.1.2.2.2.2.2.2.2.2.2.2.2.2.2.2⟩, ⟨h.2.2.1.1, h.2.2.1.2.1, h.2.2.1.2.2.1, h.2.2.1.2.2.2.1, h.2.2.1.2.2.2.2.1, h.2.2.1.2.2.2.2.2.1, d2, h.2.2.1.2.2.2.2.2.2.2.1, h.2.2.1.2.2.2.2.2.2.2.2.1, h.2.2.1.2.2.2.2.2.2.2.2.2.1, h.2.2.1.2.2.2.2.2.2.2.2.2.2.1, h.2.2.1.2.2.2.2.2.2.2.2.2.2.2.1, h.2.2.1.2.2.2.2.2.2.2.2.2.2.2.2.1, d3, h.2.2.1.2.2.2.2.2.2.2.2.2.2.2.2.2.2.1, h.2.2.1.2.2.2.2.2.2.2.2.2.2.2.2.2.2.2.1, h.2.2.1.2.2.2.2.2.2.2.2.2.2.2.2.2.2.2.2.1, h.2.2.1.2.2.2.2.2.2.2.2.2.2.2.2.2.2.2.2.2.1, h.2.2.1.2.2.2.2.2.2.2.2.2.2.2.2.2.2.2.2.2.2.1, h.2.2.1.2.2.2.2.2.2.2.2.2.2.2.2.2.2.2.2.2.2.2.1, h.2.2.1.2.2.2.2.2.2.2.2.2.2.2.2.2.2.2.2.2.2.2.2⟩, ⟨h.2.2.2.1, h.2.2.2.2.1, h.2.2.2.2.2.1, k.2.2, h.2.2.2.2.2.2.2.1, h.2.2.2.2.2.2.2.2.1, h.2.2.2.2.2.2.2.2.2.1, h.2.2.2.2.2.2.2.2.2.2⟩⟩⟩
  exact k.1
theorem eq_power {σ : en_m} {n D p : Int} {LW : Int → (Int → Int) → Prop} (h : iV σ n D p LW) {y1 : Int} (g1 : i32 y1) : en_ct z_X11_power [.inr (.inr (r_WA, 0)), .inl y1] σ (fun r σ1 => en_ct z_X12_power_ [.inr (.inr (r_Md, 0)), .inl y1] σ1 (fun r' σ2 => (∃ v : Int, r = some (.inl v) ∧ r' = some (.inl v)) ∧ iX σ2)) := by
  have hO : sOk n D p := h.2.2.1.1.1
  have hp7 := hO.2.2.2.2.1
  have hp2 := hO.2.2.2.1
  have hS9 := sS_b (k := D + 1) hO
  have hLd := mN_L hO h.2.2.1.2.2.2.2.2.2.2.2.2.2.2.2.2.2.2.2.2.2.2.1
  have bE := h.2.2.2.2.2.2.1
  have mtp : 0 ≤ (σ r_Md_taped) 0 ∧ (σ r_Md_taped) 0 ≤ 2000 := by have q := h.1.2.1; have q2 := h.2.2.2.1; exact ⟨by omega, by omega⟩
  have msz : ∀ k, 0 ≤ k → k ≤ D → 0 ≤ (σ r_Md_sizes) k ∧ (σ r_Md_sizes) k ≤ 256 := fun k a b => by rw [mN_szL h.2.2.1.2.2.2.2.2.2.2.2.2.2.2.2.2.2.2.2.2.2.2.1 a b]; exact szL_b _ hO
  have mlm : 0 ≤ (σ r_Md_laws) ((σ r_Md_live) 0) ∧ (σ r_Md_laws) ((σ r_Md_live) 0) ≤ 8 := by have q := h.1.2.2.2.2.2.2.2.2.2.1.1; have q2 := h.1.2.2.2.2.2.2.2.2.2.2.1; have q3 := h.2.2.2.2.2.2.2.2.2.1; exact ⟨by omega, by omega⟩
  have mld : ∀ i, 0 ≤ i → i < (σ r_Md_laws) ((σ r_Md_live) 0) → (0 ≤ (σ r_Md_lawLength) (8 * (σ r_Md_live) 0 + i) ∧ (σ r_Md_lawLength) (8 * (σ r_Md_live) 0 + i) ≤ D) ∧ (1 ≤ (σ r_Md_lawLength) (8 * (σ r_Md_live) 0 + i) → 0 < n) := fun i a b => eL_e h.2.2.2.2.2.2.2.2.2.2 i a (by have q := h.2.2.2.2.2.2.2.2.2.1; omega)
  refine ct_mono (ct_X11_power σ n D p LW y1 h.1.1 g1 h.1.2.2.2.2.2.2.2.2.2.2.2.1 h.2.2.2.2.2.2.1.2.1 h.1.2.2.2.2.2.2.2.2.2.2.2.2.1 h.1.2.2.2.2.2.2.2.2.2.2.2.2.2.1 h.1.2.2.2.2.2.2.2.2.2.2.2.2.2.2.1 h.1.2.2.2.2.2.2.2.2.2.2.2.2.2.2.2.1 h.1.2.2.2.2.2.2.2.2.2.1 h.1.2.2.2.2.2.2.2.2.2.2.2.2.2.2.2.2.1) ?_
  rintro _ _ ⟨f_Nought0_row, f_Nought0_reduced, f_Nought0_leading, f_Nought0_forms, f_Nought0_formStart, f_Nought0_sizes, v_Nought0_reached, f_Elements_spare, f_Elements_product, f_Elements_factor, rr1, rfl, rfl, c1, c2, c3, c4, c5⟩
  refine ct_mono (ct_X12_power_ _ n D p LW y1 h.2.2.1.1 g1 h.2.2.1.2.2.2.2.2.2.2.2.2.2.2.2.2.1 (eE_o h.2.2.2.2.2.2.1) h.2.2.1.2.2.2.2.2.2.2.1 h.2.2.1.2.2.2.2.2.2.2.2.1 h.2.2.1.2.2.2.2.1 h.2.2.1.2.2.2.2.2.2.1 h.2.2.1.2.2.2.2.2.2.2.2.2.2.2.2.2.2.2.2.2.2.2.1) ?_
  rintro _ _ ⟨f_Md_row, f_Md_first, f_Md_then, f_Md_made, rr2, rfl, rfl, d1, d2, d3, d4, d5⟩
  have d1 : (if (0 ≤ y1 ∧ y1 ≤ 5) then ∃ F, nfR n D p LW (fun x => (σ r_Md_element) (400 * y1 + x)) F ∧ pwr n D p LW F 7 1 F rr2 else rr2 = -1) := d1
  have d2 : (R97 f_Md_row) := d2
  have d3 : (R97 f_Md_first) := d3
  have d4 : (R97 f_Md_then) := d4
  have d5 : (R97 f_Md_made) := d5
  refine ⟨ans ?_, n, D, p, LW, ⟨⟨h.1.1, h.1.2.1, h.1.2.2.1, h.1.2.2.2.1, h.1.2.2.2.2.1, h.1.2.2.2.2.2.1, h.1.2.2.2.2.2.2.1, h.1.2.2.2.2.2.2.2.1, h.1.2.2.2.2.2.2.2.2.1, h.1.2.2.2.2.2.2.2.2.2.1, h.1.2.2.2.2.2.2.2.2.2.2.1, h.1.2.2.2.2.2.2.2.2.2.2.2.1, c3, c4, c5, c2, h.1.2.2.2.2.2.2.2.2.2.2.2.2.2.2.2.2.1, h.1.2.2.2.2.2.2.2.2.2.2.2.2.2.2.2.2.2.1, h.1.2.2.2.2.2.2.2.2.2.2.2.2.2.2.2.2.2.2⟩, ⟨h.2.1.1, h.2.1.2.1, h.2.1.2.2.1, h.2.1.2.2.2.1, h.2.1.2.2.2.2.1, h.2.1.2.2.2.2.2.1, h.2.1.2.2.2.2.2.2.1, h.2.1.2.2.2.2.2.2.2.1, h.2.1.2.2.2.2.2.2.2.2.1, h.2.1.2.2.2.2.2.2.2.2.2.1, h.2.1.2.2.2.2.2.2.2.2.2.2.1, h.2.1.2.2.2.2.2.2.2.2.2.2.2.1, h.2.1.2.2.2.2.2.2.2.2.2.2.2.2.1, h.2.1.2.2.2.2.2.2.2.2.2.2.2.2.2.1, h.2.1.2.2.2.2.2.2.2.2.2.2.2.2.2.2⟩, ⟨h.2.2.1.1, h.2.2.1.2.1, h.2.2.1.2.2.1, h.2.2.1.2.2.2.1, d5, h.2.2.1.2.2.2.2.2.1, d2, d3, d4, h.2.2.1.2.2.2.2.2.2.2.2.2.1, h.2.2.1.2.2.2.2.2.2.2.2.2.2.1, h.2.2.1.2.2.2.2.2.2.2.2.2.2.2.1, h.2.2.1.2.2.2.2.2.2.2.2.2.2.2.2.1, h.2.2.1.2.2.2.2.2.2.2.2.2.2.2.2.2.1, h.2.2.1.2.2.2.2.2.2.2.2.2.2.2.2.2.2.1, h.2.2.1.2.2.2.2.2.2.2.2.2.2.2.2.2.2.2.1, h.2.2.1.2.2.2.2.2.2.2.2.2.2.2.2.2.2.2.2.1, h.2.2.1.2.2.2.2.2.2.2.2.2.2.2.2.2.2.2.2.2.1, h.2.2.1.2.2.2.2.2.2.2.2.2.2.2.2.2.2.2.2.2.2.1, h.2.2.1.2.2.2.2.2.2.2.2.2.2.2.2.2.2.2.2.2.2.2.1, h.2.2.1.2.2.2.2.2.2.2.2.2.2.2.2.2.2.2.2.2.2.2.2⟩, ⟨h.2.2.2.1, h.2.2.2.2.1, h.2.2.2.2.2.1, h.2.2.2.2.2.2.1, h.2.2.2.2.2.2.2.1, h.2.2.2.2.2.2.2.2.1, h.2.2.2.2.2.2.2.2.2.1, h.2.2.2.2.2.2.2.2.2.2⟩⟩⟩
  by_cases q : 0 ≤ y1 ∧ y1 ≤ 5
  · rw [if_pos q] at c1 d1
    obtain ⟨F, u1, u2⟩ := c1
    obtain ⟨F', w1, w2⟩ := d1
    have e := nfR_uniq hO (by omega) (fun x a b => mE_of (bE.1 y1 x q ⟨a, b⟩)) u1 w1
    exact pwr_uniq hO e 7 1 F F' rr1 rr2 e u2 w2
  · rw [if_neg q] at c1 d1
    rw [c1, d1]
theorem eq_alike {σ : en_m} {n D p : Int} {LW : Int → (Int → Int) → Prop} (h : iV σ n D p LW) {y1 : Int} (g1 : i32 y1) {y2 : Int} (g2 : i32 y2) : en_ct z_X11_alike [.inr (.inr (r_WA, 0)), .inl y1, .inl y2] σ (fun r σ1 => en_ct z_X12_alike [.inr (.inr (r_Md, 0)), .inl y1, .inl y2] σ1 (fun r' σ2 => (∃ v : Int, r = some (.inl v) ∧ r' = some (.inl v)) ∧ iX σ2)) := by
  have hO : sOk n D p := h.2.2.1.1.1
  have hp7 := hO.2.2.2.2.1
  have hp2 := hO.2.2.2.1
  have hS9 := sS_b (k := D + 1) hO
  have hLd := mN_L hO h.2.2.1.2.2.2.2.2.2.2.2.2.2.2.2.2.2.2.2.2.2.2.1
  have bE := h.2.2.2.2.2.2.1
  have mtp : 0 ≤ (σ r_Md_taped) 0 ∧ (σ r_Md_taped) 0 ≤ 2000 := by have q := h.1.2.1; have q2 := h.2.2.2.1; exact ⟨by omega, by omega⟩
  have msz : ∀ k, 0 ≤ k → k ≤ D → 0 ≤ (σ r_Md_sizes) k ∧ (σ r_Md_sizes) k ≤ 256 := fun k a b => by rw [mN_szL h.2.2.1.2.2.2.2.2.2.2.2.2.2.2.2.2.2.2.2.2.2.2.1 a b]; exact szL_b _ hO
  have mlm : 0 ≤ (σ r_Md_laws) ((σ r_Md_live) 0) ∧ (σ r_Md_laws) ((σ r_Md_live) 0) ≤ 8 := by have q := h.1.2.2.2.2.2.2.2.2.2.1.1; have q2 := h.1.2.2.2.2.2.2.2.2.2.2.1; have q3 := h.2.2.2.2.2.2.2.2.2.1; exact ⟨by omega, by omega⟩
  have mld : ∀ i, 0 ≤ i → i < (σ r_Md_laws) ((σ r_Md_live) 0) → (0 ≤ (σ r_Md_lawLength) (8 * (σ r_Md_live) 0 + i) ∧ (σ r_Md_lawLength) (8 * (σ r_Md_live) 0 + i) ≤ D) ∧ (1 ≤ (σ r_Md_lawLength) (8 * (σ r_Md_live) 0 + i) → 0 < n) := fun i a b => eL_e h.2.2.2.2.2.2.2.2.2.2 i a (by have q := h.2.2.2.2.2.2.2.2.2.1; omega)
  refine ct_mono (ct_X11_alike σ n D p LW y1 y2 h.1.1 g1 g2 h.1.2.2.2.2.2.2.2.2.2.2.2.1 h.1.2.2.2.2.2.2.2.2.2.2.2.2.1 h.1.2.2.2.2.2.2.2.2.2.2.2.2.2.1 h.1.2.2.2.2.2.2.2.2.2.2.2.2.2.2.2.1 h.1.2.2.2.2.2.2.2.2.2.1 h.1.2.2.2.2.2.2.2.2.2.2.2.2.2.2.2.2.1) ?_
  rintro _ _ ⟨f_Nought0_row, f_Nought0_reduced, f_Nought0_leading, f_Nought0_forms, f_Nought0_formStart, f_Nought0_sizes, v_Nought0_reached, f_Elements_spare, f_Elements_product, rr1, rfl, rfl, c1, c2, c3, c4⟩
  refine ct_mono (ct_X12_alike _ n D p LW y1 y2 h.2.2.1.1 g1 g2 h.2.2.1.2.2.2.2.2.2.2.2.2.2.2.2.2.1 h.2.2.1.2.2.2.2.2.2.2.1 h.2.2.1.2.2.2.2.2.2.1 h.2.2.1.2.2.2.2.2.2.2.2.2.2.2.2.2.2.2.2.2.2.2.1) ?_
  rintro _ _ ⟨f_Md_row, f_Md_first, rr2, rfl, rfl, d1, d2, d3⟩
  have d1 : (if (0 ≤ y1 ∧ y1 ≤ 5) ∧ 0 ≤ y2 ∧ y2 ≤ 5 then ∃ X, nfR n D p LW (fun x => ((σ r_Md_element) (400 * y1 + x) - (σ r_Md_element) (400 * y2 + x)) % p) X ∧ ((rr2 = 1 ∧ ∀ x, 0 ≤ x → x < sS n D (D + 1) → X x = 0) ∨ (rr2 = 0 ∧ ∃ x, 0 ≤ x ∧ x < sS n D (D + 1) ∧ ¬ X x = 0)) else rr2 = -1) := d1
  have d2 : (R97 f_Md_row) := d2
  have d3 : (R97 f_Md_first) := d3
  refine ⟨ans ?_, n, D, p, LW, ⟨⟨h.1.1, h.1.2.1, h.1.2.2.1, h.1.2.2.2.1, h.1.2.2.2.2.1, h.1.2.2.2.2.2.1, h.1.2.2.2.2.2.2.1, h.1.2.2.2.2.2.2.2.1, h.1.2.2.2.2.2.2.2.2.1, h.1.2.2.2.2.2.2.2.2.2.1, h.1.2.2.2.2.2.2.2.2.2.2.1, h.1.2.2.2.2.2.2.2.2.2.2.2.1, c3, c4, h.1.2.2.2.2.2.2.2.2.2.2.2.2.2.2.1, c2, h.1.2.2.2.2.2.2.2.2.2.2.2.2.2.2.2.2.1, h.1.2.2.2.2.2.2.2.2.2.2.2.2.2.2.2.2.2.1, h.1.2.2.2.2.2.2.2.2.2.2.2.2.2.2.2.2.2.2⟩, ⟨h.2.1.1, h.2.1.2.1, h.2.1.2.2.1, h.2.1.2.2.2.1, h.2.1.2.2.2.2.1, h.2.1.2.2.2.2.2.1, h.2.1.2.2.2.2.2.2.1, h.2.1.2.2.2.2.2.2.2.1, h.2.1.2.2.2.2.2.2.2.2.1, h.2.1.2.2.2.2.2.2.2.2.2.1, h.2.1.2.2.2.2.2.2.2.2.2.2.1, h.2.1.2.2.2.2.2.2.2.2.2.2.2.1, h.2.1.2.2.2.2.2.2.2.2.2.2.2.2.1, h.2.1.2.2.2.2.2.2.2.2.2.2.2.2.2.1, h.2.1.2.2.2.2.2.2.2.2.2.2.2.2.2.2⟩, ⟨h.2.2.1.1, h.2.2.1.2.1, h.2.2.1.2.2.1, h.2.2.1.2.2.2.1, h.2.2.1.2.2.2.2.1, h.2.2.1.2.2.2.2.2.1, d2, d3, h.2.2.1.2.2.2.2.2.2.2.2.1, h.2.2.1.2.2.2.2.2.2.2.2.2.1, h.2.2.1.2.2.2.2.2.2.2.2.2.2.1, h.2.2.1.2.2.2.2.2.2.2.2.2.2.2.1, h.2.2.1.2.2.2.2.2.2.2.2.2.2.2.2.1, h.2.2.1.2.2.2.2.2.2.2.2.2.2.2.2.2.1, h.2.2.1.2.2.2.2.2.2.2.2.2.2.2.2.2.2.1, h.2.2.1.2.2.2.2.2.2.2.2.2.2.2.2.2.2.2.1, h.2.2.1.2.2.2.2.2.2.2.2.2.2.2.2.2.2.2.2.1, h.2.2.1.2.2.2.2.2.2.2.2.2.2.2.2.2.2.2.2.2.1, h.2.2.1.2.2.2.2.2.2.2.2.2.2.2.2.2.2.2.2.2.2.1, h.2.2.1.2.2.2.2.2.2.2.2.2.2.2.2.2.2.2.2.2.2.2.1, h.2.2.1.2.2.2.2.2.2.2.2.2.2.2.2.2.2.2.2.2.2.2.2⟩, ⟨h.2.2.2.1, h.2.2.2.2.1, h.2.2.2.2.2.1, h.2.2.2.2.2.2.1, h.2.2.2.2.2.2.2.1, h.2.2.2.2.2.2.2.2.1, h.2.2.2.2.2.2.2.2.2.1, h.2.2.2.2.2.2.2.2.2.2⟩⟩⟩
  by_cases q : (0 ≤ y1 ∧ y1 ≤ 5) ∧ 0 ≤ y2 ∧ y2 ≤ 5
  · rw [if_pos q] at c1 d1
    obtain ⟨X, u1, u2⟩ := c1
    obtain ⟨Y, w1, w2⟩ := d1
    have e := nfR_uniq hO (by omega) (fun x a b => mE_of (by show ((σ r_Elements_rowsR) (y1 * 364 + x) - (σ r_Elements_rowsR) (y2 * 364 + x)) % p = ((σ r_Md_element) (400 * y1 + x) - (σ r_Md_element) (400 * y2 + x)) % p; rw [bE.1 y1 x q.1 ⟨a, b⟩, bE.1 y2 x q.2 ⟨a, b⟩])) u1 w1
    rcases u2 with ⟨u2, u3⟩ | ⟨u2, x, u3, u4, u5⟩ <;> rcases w2 with ⟨w2, w3⟩ | ⟨w2, z, w3, w4, w5⟩
    · rw [u2, w2]
    · exact absurd (by rw [← e z w3 w4]; exact u3 z w3 w4) w5
    · exact absurd (by rw [e x u3 u4]; exact w3 x u3 u4) u5
    · rw [u2, w2]
  · rw [if_neg q] at c1 d1
    rw [c1, d1]
theorem eq_size {σ : en_m} {n D p : Int} {LW : Int → (Int → Int) → Prop} (h : iV σ n D p LW) {y1 : Int} (g1 : i32 y1) : en_ct z_X11_size [.inr (.inr (r_WA, 0)), .inl y1] σ (fun r σ1 => en_ct z_X12_size [.inr (.inr (r_Md, 0)), .inl y1] σ1 (fun r' σ2 => (∃ v : Int, r = some (.inl v) ∧ r' = some (.inl v)) ∧ iX σ2)) := by
  have hO : sOk n D p := h.2.2.1.1.1
  have hp7 := hO.2.2.2.2.1
  have hp2 := hO.2.2.2.1
  have hS9 := sS_b (k := D + 1) hO
  have hLd := mN_L hO h.2.2.1.2.2.2.2.2.2.2.2.2.2.2.2.2.2.2.2.2.2.2.1
  have bE := h.2.2.2.2.2.2.1
  have mtp : 0 ≤ (σ r_Md_taped) 0 ∧ (σ r_Md_taped) 0 ≤ 2000 := by have q := h.1.2.1; have q2 := h.2.2.2.1; exact ⟨by omega, by omega⟩
  have msz : ∀ k, 0 ≤ k → k ≤ D → 0 ≤ (σ r_Md_sizes) k ∧ (σ r_Md_sizes) k ≤ 256 := fun k a b => by rw [mN_szL h.2.2.1.2.2.2.2.2.2.2.2.2.2.2.2.2.2.2.2.2.2.2.1 a b]; exact szL_b _ hO
  have mlm : 0 ≤ (σ r_Md_laws) ((σ r_Md_live) 0) ∧ (σ r_Md_laws) ((σ r_Md_live) 0) ≤ 8 := by have q := h.1.2.2.2.2.2.2.2.2.2.1.1; have q2 := h.1.2.2.2.2.2.2.2.2.2.2.1; have q3 := h.2.2.2.2.2.2.2.2.2.1; exact ⟨by omega, by omega⟩
  have mld : ∀ i, 0 ≤ i → i < (σ r_Md_laws) ((σ r_Md_live) 0) → (0 ≤ (σ r_Md_lawLength) (8 * (σ r_Md_live) 0 + i) ∧ (σ r_Md_lawLength) (8 * (σ r_Md_live) 0 + i) ≤ D) ∧ (1 ≤ (σ r_Md_lawLength) (8 * (σ r_Md_live) 0 + i) → 0 < n) := fun i a b => eL_e h.2.2.2.2.2.2.2.2.2.2 i a (by have q := h.2.2.2.2.2.2.2.2.2.1; omega)
  refine ct_mono (ct_X11_size σ n D p LW (σ r_Md_leads) y1 h.1.1 g1 h.1.2.2.2.2.2.2.2.2.2.2.2.2.2.2.2.1 h.1.2.2.2.2.2.2.2.2.2.1 h.1.2.2.2.2.2.2.2.2.2.2.2.2.2.2.2.2.1 hLd) ?_
  rintro _ _ ⟨f_Nought0_row, f_Nought0_reduced, f_Nought0_leading, f_Nought0_forms, f_Nought0_formStart, f_Nought0_sizes, v_Nought0_reached, rr1, rfl, rfl, c1, c2⟩
  refine fn_mono (ct_X12_size _ n D p y1 h.2.2.1.1 g1) ?_
  refine ⟨ans ?_, n, D, p, LW, ⟨⟨h.1.1, h.1.2.1, h.1.2.2.1, h.1.2.2.2.1, h.1.2.2.2.2.1, h.1.2.2.2.2.2.1, h.1.2.2.2.2.2.2.1, h.1.2.2.2.2.2.2.2.1, h.1.2.2.2.2.2.2.2.2.1, h.1.2.2.2.2.2.2.2.2.2.1, h.1.2.2.2.2.2.2.2.2.2.2.1, h.1.2.2.2.2.2.2.2.2.2.2.2.1, h.1.2.2.2.2.2.2.2.2.2.2.2.2.1, h.1.2.2.2.2.2.2.2.2.2.2.2.2.2.1, h.1.2.2.2.2.2.2.2.2.2.2.2.2.2.2.1, c2, h.1.2.2.2.2.2.2.2.2.2.2.2.2.2.2.2.2.1, h.1.2.2.2.2.2.2.2.2.2.2.2.2.2.2.2.2.2.1, h.1.2.2.2.2.2.2.2.2.2.2.2.2.2.2.2.2.2.2⟩, ⟨h.2.1.1, h.2.1.2.1, h.2.1.2.2.1, h.2.1.2.2.2.1, h.2.1.2.2.2.2.1, h.2.1.2.2.2.2.2.1, h.2.1.2.2.2.2.2.2.1, h.2.1.2.2.2.2.2.2.2.1, h.2.1.2.2.2.2.2.2.2.2.1, h.2.1.2.2.2.2.2.2.2.2.2.1, h.2.1.2.2.2.2.2.2.2.2.2.2.1, h.2.1.2.2.2.2.2.2.2.2.2.2.2.1, h.2.1.2.2.2.2.2.2.2.2.2.2.2.2.1, h.2.1.2.2.2.2.2.2.2.2.2.2.2.2.2.1, h.2.1.2.2.2.2.2.2.2.2.2.2.2.2.2.2⟩, ⟨h.2.2.1.1, h.2.2.1.2.1, h.2.2.1.2.2.1, h.2.2.1.2.2.2.1, h.2.2.1.2.2.2.2.1, h.2.2.1.2.2.2.2.2.1, h.2.2.1.2.2.2.2.2.2.1, h.2.2.1.2.2.2.2.2.2.2.1, h.2.2.1.2.2.2.2.2.2.2.2.1, h.2.2.1.2.2.2.2.2.2.2.2.2.1, h.2.2.1.2.2.2.2.2.2.2.2.2.2.1, h.2.2.1.2.2.2.2.2.2.2.2.2.2.2.1, h.2.2.1.2.2.2.2.2.2.2.2.2.2.2.2.1, h.2.2.1.2.2.2.2.2.2.2.2.2.2.2.2.2.1, h.2.2.1.2.2.2.2.2.2.2.2.2.2.2.2.2.2.1, h.2.2.1.2.2.2.2.2.2.2.2.2.2.2.2.2.2.2.1, h.2.2.1.2.2.2.2.2.2.2.2.2.2.2.2.2.2.2.2.1, h.2.2.1.2.2.2.2.2.2.2.2.2.2.2.2.2.2.2.2.2.1, h.2.2.1.2.2.2.2.2.2.2.2.2.2.2.2.2.2.2.2.2.2.1, h.2.2.1.2.2.2.2.2.2.2.2.2.2.2.2.2.2.2.2.2.2.2.1, h.2.2.1.2.2.2.2.2.2.2.2.2.2.2.2.2.2.2.2.2.2.2.2⟩, ⟨h.2.2.2.1, h.2.2.2.2.1, h.2.2.2.2.2.1, h.2.2.2.2.2.2.1, h.2.2.2.2.2.2.2.1, h.2.2.2.2.2.2.2.2.1, h.2.2.2.2.2.2.2.2.2.1, h.2.2.2.2.2.2.2.2.2.2⟩⟩⟩
  show rr1 = (if 0 ≤ y1 ∧ y1 ≤ D then (σ r_Md_sizes) y1 else -1)
  rw [c1]
  by_cases q : 0 ≤ y1 ∧ y1 ≤ D
  · rw [if_pos q, if_pos q]
    exact (mN_szL h.2.2.1.2.2.2.2.2.2.2.2.2.2.2.2.2.2.2.2.2.2.2.1 q.1 q.2).symm
  · rw [if_neg q, if_neg q]
theorem eq_normal {σ : en_m} {n D p : Int} {LW : Int → (Int → Int) → Prop} (h : iV σ n D p LW) {y1 : Int} (g1 : i32 y1) {y2 : Int} (g2 : i32 y2) : en_ct z_X11_normal [.inr (.inr (r_WA, 0)), .inl y1, .inl y2] σ (fun r σ1 => en_ct z_X12_normal [.inr (.inr (r_Md, 0)), .inl y1, .inl y2] σ1 (fun r' σ2 => (∃ v : Int, r = some (.inl v) ∧ r' = some (.inl v)) ∧ iX σ2)) := by
  have hO : sOk n D p := h.2.2.1.1.1
  have hp7 := hO.2.2.2.2.1
  have hp2 := hO.2.2.2.1
  have hS9 := sS_b (k := D + 1) hO
  have hLd := mN_L hO h.2.2.1.2.2.2.2.2.2.2.2.2.2.2.2.2.2.2.2.2.2.2.1
  have bE := h.2.2.2.2.2.2.1
  have mtp : 0 ≤ (σ r_Md_taped) 0 ∧ (σ r_Md_taped) 0 ≤ 2000 := by have q := h.1.2.1; have q2 := h.2.2.2.1; exact ⟨by omega, by omega⟩
  have msz : ∀ k, 0 ≤ k → k ≤ D → 0 ≤ (σ r_Md_sizes) k ∧ (σ r_Md_sizes) k ≤ 256 := fun k a b => by rw [mN_szL h.2.2.1.2.2.2.2.2.2.2.2.2.2.2.2.2.2.2.2.2.2.2.1 a b]; exact szL_b _ hO
  have mlm : 0 ≤ (σ r_Md_laws) ((σ r_Md_live) 0) ∧ (σ r_Md_laws) ((σ r_Md_live) 0) ≤ 8 := by have q := h.1.2.2.2.2.2.2.2.2.2.1.1; have q2 := h.1.2.2.2.2.2.2.2.2.2.2.1; have q3 := h.2.2.2.2.2.2.2.2.2.1; exact ⟨by omega, by omega⟩
  have mld : ∀ i, 0 ≤ i → i < (σ r_Md_laws) ((σ r_Md_live) 0) → (0 ≤ (σ r_Md_lawLength) (8 * (σ r_Md_live) 0 + i) ∧ (σ r_Md_lawLength) (8 * (σ r_Md_live) 0 + i) ≤ D) ∧ (1 ≤ (σ r_Md_lawLength) (8 * (σ r_Md_live) 0 + i) → 0 < n) := fun i a b => eL_e h.2.2.2.2.2.2.2.2.2.2 i a (by have q := h.2.2.2.2.2.2.2.2.2.1; omega)
  refine ct_mono (ct_X11_normal σ n D p LW (σ r_Md_leads) y1 y2 h.1.1 g1 g2 h.1.2.2.2.2.2.2.2.2.2.2.2.2.2.2.2.1 h.1.2.2.2.2.2.2.2.2.2.1 h.1.2.2.2.2.2.2.2.2.2.2.2.2.2.2.2.2.1 hLd) ?_
  rintro _ _ ⟨f_Nought0_row, f_Nought0_reduced, f_Nought0_leading, f_Nought0_forms, f_Nought0_formStart, f_Nought0_sizes, v_Nought0_reached, rr1, rfl, rfl, c1, c2⟩
  refine fn_mono (ct_X12_normal _ n D p y1 y2 h.2.2.1.1 g1 g2 h.2.2.1.2.2.2.2.2.2.2.2.2.2.2.2.2.2.2.2.2.2.2.1.2.2) ?_
  refine ⟨ans ?_, n, D, p, LW, ⟨⟨h.1.1, h.1.2.1, h.1.2.2.1, h.1.2.2.2.1, h.1.2.2.2.2.1, h.1.2.2.2.2.2.1, h.1.2.2.2.2.2.2.1, h.1.2.2.2.2.2.2.2.1, h.1.2.2.2.2.2.2.2.2.1, h.1.2.2.2.2.2.2.2.2.2.1, h.1.2.2.2.2.2.2.2.2.2.2.1, h.1.2.2.2.2.2.2.2.2.2.2.2.1, h.1.2.2.2.2.2.2.2.2.2.2.2.2.1, h.1.2.2.2.2.2.2.2.2.2.2.2.2.2.1, h.1.2.2.2.2.2.2.2.2.2.2.2.2.2.2.1, c2, h.1.2.2.2.2.2.2.2.2.2.2.2.2.2.2.2.2.1, h.1.2.2.2.2.2.2.2.2.2.2.2.2.2.2.2.2.2.1, h.1.2.2.2.2.2.2.2.2.2.2.2.2.2.2.2.2.2.2⟩, ⟨h.2.1.1, h.2.1.2.1, h.2.1.2.2.1, h.2.1.2.2.2.1, h.2.1.2.2.2.2.1, h.2.1.2.2.2.2.2.1, h.2.1.2.2.2.2.2.2.1, h.2.1.2.2.2.2.2.2.2.1, h.2.1.2.2.2.2.2.2.2.2.1, h.2.1.2.2.2.2.2.2.2.2.2.1, h.2.1.2.2.2.2.2.2.2.2.2.2.1, h.2.1.2.2.2.2.2.2.2.2.2.2.2.1, h.2.1.2.2.2.2.2.2.2.2.2.2.2.2.1, h.2.1.2.2.2.2.2.2.2.2.2.2.2.2.2.1, h.2.1.2.2.2.2.2.2.2.2.2.2.2.2.2.2⟩, ⟨h.2.2.1.1, h.2.2.1.2.1, h.2.2.1.2.2.1, h.2.2.1.2.2.2.1, h.2.2.1.2.2.2.2.1, h.2.2.1.2.2.2.2.2.1, h.2.2.1.2.2.2.2.2.2.1, h.2.2.1.2.2.2.2.2.2.2.1, h.2.2.1.2.2.2.2.2.2.2.2.1, h.2.2.1.2.2.2.2.2.2.2.2.2.1, h.2.2.1.2.2.2.2.2.2.2.2.2.2.1, h.2.2.1.2.2.2.2.2.2.2.2.2.2.2.1, h.2.2.1.2.2.2.2.2.2.2.2.2.2.2.2.1, h.2.2.1.2.2.2.2.2.2.2.2.2.2.2.2.2.1, h.2.2.1.2.2.2.2.2.2.2.2.2.2.2.2.2.2.1, h.2.2.1.2.2.2.2.2.2.2.2.2.2.2.2.2.2.2.1, h.2.2.1.2.2.2.2.2.2.2.2.2.2.2.2.2.2.2.2.1, h.2.2.1.2.2.2.2.2.2.2.2.2.2.2.2.2.2.2.2.2.1, h.2.2.1.2.2.2.2.2.2.2.2.2.2.2.2.2.2.2.2.2.2.1, h.2.2.1.2.2.2.2.2.2.2.2.2.2.2.2.2.2.2.2.2.2.2.1, h.2.2.1.2.2.2.2.2.2.2.2.2.2.2.2.2.2.2.2.2.2.2.2⟩, ⟨h.2.2.2.1, h.2.2.2.2.1, h.2.2.2.2.2.1, h.2.2.2.2.2.2.1, h.2.2.2.2.2.2.2.1, h.2.2.2.2.2.2.2.2.1, h.2.2.2.2.2.2.2.2.2.1, h.2.2.2.2.2.2.2.2.2.2⟩⟩⟩
  show rr1 = (if 0 ≤ y1 ∧ y1 ≤ D then nth (fun w => bI ((σ r_Md_leads) (sS n D y1 + w) = 0)) y2 (sW n D y1).toNat else -1)
  exact c1
theorem eq_base {σ : en_m} {n D p : Int} {LW : Int → (Int → Int) → Prop} (h : iV σ n D p LW) {y1 : Int} (g1 : i32 y1) : en_ct z_X11_base [.inr (.inr (r_WA, 0)), .inl y1] σ (fun r σ1 => en_ct z_X12_base [.inr (.inr (r_Md, 0)), .inl y1] σ1 (fun r' σ2 => (∃ v : Int, r = some (.inl v) ∧ r' = some (.inl v)) ∧ iX σ2)) := by
  have hO : sOk n D p := h.2.2.1.1.1
  have hp7 := hO.2.2.2.2.1
  have hp2 := hO.2.2.2.1
  have hS9 := sS_b (k := D + 1) hO
  have hLd := mN_L hO h.2.2.1.2.2.2.2.2.2.2.2.2.2.2.2.2.2.2.2.2.2.2.1
  have bE := h.2.2.2.2.2.2.1
  have mtp : 0 ≤ (σ r_Md_taped) 0 ∧ (σ r_Md_taped) 0 ≤ 2000 := by have q := h.1.2.1; have q2 := h.2.2.2.1; exact ⟨by omega, by omega⟩
  have msz : ∀ k, 0 ≤ k → k ≤ D → 0 ≤ (σ r_Md_sizes) k ∧ (σ r_Md_sizes) k ≤ 256 := fun k a b => by rw [mN_szL h.2.2.1.2.2.2.2.2.2.2.2.2.2.2.2.2.2.2.2.2.2.2.1 a b]; exact szL_b _ hO
  have mlm : 0 ≤ (σ r_Md_laws) ((σ r_Md_live) 0) ∧ (σ r_Md_laws) ((σ r_Md_live) 0) ≤ 8 := by have q := h.1.2.2.2.2.2.2.2.2.2.1.1; have q2 := h.1.2.2.2.2.2.2.2.2.2.2.1; have q3 := h.2.2.2.2.2.2.2.2.2.1; exact ⟨by omega, by omega⟩
  have mld : ∀ i, 0 ≤ i → i < (σ r_Md_laws) ((σ r_Md_live) 0) → (0 ≤ (σ r_Md_lawLength) (8 * (σ r_Md_live) 0 + i) ∧ (σ r_Md_lawLength) (8 * (σ r_Md_live) 0 + i) ≤ D) ∧ (1 ≤ (σ r_Md_lawLength) (8 * (σ r_Md_live) 0 + i) → 0 < n) := fun i a b => eL_e h.2.2.2.2.2.2.2.2.2.2 i a (by have q := h.2.2.2.2.2.2.2.2.2.1; omega)
  refine ct_mono (ct_X11_base σ n D p LW (σ r_Md_leads) y1 h.1.1 g1 h.1.2.2.2.2.2.2.2.2.2.2.2.2.2.2.2.1 h.1.2.2.2.2.2.2.2.2.2.1 h.1.2.2.2.2.2.2.2.2.2.2.2.2.2.2.2.2.1 hLd) ?_
  rintro _ _ ⟨f_Nought0_row, f_Nought0_reduced, f_Nought0_leading, f_Nought0_forms, f_Nought0_formStart, f_Nought0_sizes, v_Nought0_reached, rr1, rfl, rfl, c1, c2⟩
  refine fn_mono (ct_X12_base _ n D p y1 h.2.2.1.1 g1 h.2.2.1.2.2.2.2.2.2.2.2.2.2.2.2.2.2.2.2.2.2.2.1.2.2) ?_
  refine ⟨ans ?_, n, D, p, LW, ⟨⟨h.1.1, h.1.2.1, h.1.2.2.1, h.1.2.2.2.1, h.1.2.2.2.2.1, h.1.2.2.2.2.2.1, h.1.2.2.2.2.2.2.1, h.1.2.2.2.2.2.2.2.1, h.1.2.2.2.2.2.2.2.2.1, h.1.2.2.2.2.2.2.2.2.2.1, h.1.2.2.2.2.2.2.2.2.2.2.1, h.1.2.2.2.2.2.2.2.2.2.2.2.1, h.1.2.2.2.2.2.2.2.2.2.2.2.2.1, h.1.2.2.2.2.2.2.2.2.2.2.2.2.2.1, h.1.2.2.2.2.2.2.2.2.2.2.2.2.2.2.1, c2, h.1.2.2.2.2.2.2.2.2.2.2.2.2.2.2.2.2.1, h.1.2.2.2.2.2.2.2.2.2.2.2.2.2.2.2.2.2.1, h.1.2.2.2.2.2.2.2.2.2.2.2.2.2.2.2.2.2.2⟩, ⟨h.2.1.1, h.2.1.2.1, h.2.1.2.2.1, h.2.1.2.2.2.1, h.2.1.2.2.2.2.1, h.2.1.2.2.2.2.2.1, h.2.1.2.2.2.2.2.2.1, h.2.1.2.2.2.2.2.2.2.1, h.2.1.2.2.2.2.2.2.2.2.1, h.2.1.2.2.2.2.2.2.2.2.2.1, h.2.1.2.2.2.2.2.2.2.2.2.2.1, h.2.1.2.2.2.2.2.2.2.2.2.2.2.1, h.2.1.2.2.2.2.2.2.2.2.2.2.2.2.1, h.2.1.2.2.2.2.2.2.2.2.2.2.2.2.2.1, h.2.1.2.2.2.2.2.2.2.2.2.2.2.2.2.2⟩, ⟨h.2.2.1.1, h.2.2.1.2.1, h.2.2.1.2.2.1, h.2.2.1.2.2.2.1, h.2.2.1.2.2.2.2.1, h.2.2.1.2.2.2.2.2.1, h.2.2.1.2.2.2.2.2.2.1, h.2.2.1.2.2.2.2.2.2.2.1, h.2.2.1.2.2.2.2.2.2.2.2.1, h.2.2.1.2.2.2.2.2.2.2.2.2.1, h.2.2.1.2.2.2.2.2.2.2.2.2.2.1, h.2.2.1.2.2.2.2.2.2.2.2.2.2.2.1, h.2.2.1.2.2.2.2.2.2.2.2.2.2.2.2.1, h.2.2.1.2.2.2.2.2.2.2.2.2.2.2.2.2.1, h.2.2.1.2.2.2.2.2.2.2.2.2.2.2.2.2.2.1, h.2.2.1.2.2.2.2.2.2.2.2.2.2.2.2.2.2.2.1, h.2.2.1.2.2.2.2.2.2.2.2.2.2.2.2.2.2.2.2.1, h.2.2.1.2.2.2.2.2.2.2.2.2.2.2.2.2.2.2.2.2.1, h.2.2.1.2.2.2.2.2.2.2.2.2.2.2.2.2.2.2.2.2.2.1, h.2.2.1.2.2.2.2.2.2.2.2.2.2.2.2.2.2.2.2.2.2.2.1, h.2.2.1.2.2.2.2.2.2.2.2.2.2.2.2.2.2.2.2.2.2.2.2⟩, ⟨h.2.2.2.1, h.2.2.2.2.1, h.2.2.2.2.2.1, h.2.2.2.2.2.2.1, h.2.2.2.2.2.2.2.1, h.2.2.2.2.2.2.2.2.1, h.2.2.2.2.2.2.2.2.2.1, h.2.2.2.2.2.2.2.2.2.2⟩⟩⟩
  show rr1 = (if 0 ≤ y1 ∧ y1 ≤ D then cB ((σ r_Md_leads)) n D y1 else -1)
  exact c1
theorem eq_baseAt {σ : en_m} {n D p : Int} {LW : Int → (Int → Int) → Prop} (h : iV σ n D p LW) {y1 : Int} (g1 : i32 y1) {y2 : Int} (g2 : i32 y2) : en_ct z_X11_baseAt [.inr (.inr (r_WA, 0)), .inl y1, .inl y2] σ (fun r σ1 => en_ct z_X12_baseAt [.inr (.inr (r_Md, 0)), .inl y1, .inl y2] σ1 (fun r' σ2 => (∃ v : Int, r = some (.inl v) ∧ r' = some (.inl v)) ∧ iX σ2)) := by
  have hO : sOk n D p := h.2.2.1.1.1
  have hp7 := hO.2.2.2.2.1
  have hp2 := hO.2.2.2.1
  have hS9 := sS_b (k := D + 1) hO
  have hLd := mN_L hO h.2.2.1.2.2.2.2.2.2.2.2.2.2.2.2.2.2.2.2.2.2.2.1
  have bE := h.2.2.2.2.2.2.1
  have mtp : 0 ≤ (σ r_Md_taped) 0 ∧ (σ r_Md_taped) 0 ≤ 2000 := by have q := h.1.2.1; have q2 := h.2.2.2.1; exact ⟨by omega, by omega⟩
  have msz : ∀ k, 0 ≤ k → k ≤ D → 0 ≤ (σ r_Md_sizes) k ∧ (σ r_Md_sizes) k ≤ 256 := fun k a b => by rw [mN_szL h.2.2.1.2.2.2.2.2.2.2.2.2.2.2.2.2.2.2.2.2.2.2.1 a b]; exact szL_b _ hO
  have mlm : 0 ≤ (σ r_Md_laws) ((σ r_Md_live) 0) ∧ (σ r_Md_laws) ((σ r_Md_live) 0) ≤ 8 := by have q := h.1.2.2.2.2.2.2.2.2.2.1.1; have q2 := h.1.2.2.2.2.2.2.2.2.2.2.1; have q3 := h.2.2.2.2.2.2.2.2.2.1; exact ⟨by omega, by omega⟩
  have mld : ∀ i, 0 ≤ i → i < (σ r_Md_laws) ((σ r_Md_live) 0) → (0 ≤ (σ r_Md_lawLength) (8 * (σ r_Md_live) 0 + i) ∧ (σ r_Md_lawLength) (8 * (σ r_Md_live) 0 + i) ≤ D) ∧ (1 ≤ (σ r_Md_lawLength) (8 * (σ r_Md_live) 0 + i) → 0 < n) := fun i a b => eL_e h.2.2.2.2.2.2.2.2.2.2 i a (by have q := h.2.2.2.2.2.2.2.2.2.1; omega)
  refine ct_mono (ct_X11_baseAt σ n D p LW (σ r_Md_leads) y1 y2 h.1.1 g1 g2 h.1.2.2.2.2.2.2.2.2.2.2.2.2.2.2.2.1 h.1.2.2.2.2.2.2.2.2.2.1 h.1.2.2.2.2.2.2.2.2.2.2.2.2.2.2.2.2.1 hLd) ?_
  rintro _ _ ⟨f_Nought0_row, f_Nought0_reduced, f_Nought0_leading, f_Nought0_forms, f_Nought0_formStart, f_Nought0_sizes, v_Nought0_reached, rr1, rfl, rfl, c1, c2⟩
  refine fn_mono (ct_X12_baseAt _ n D p y1 y2 h.2.2.1.1 g1 g2 h.2.2.1.2.2.2.2.2.2.2.2.2.2.2.2.2.2.2.2.2.2.2.1.2.2) ?_
  refine ⟨ans ?_, n, D, p, LW, ⟨⟨h.1.1, h.1.2.1, h.1.2.2.1, h.1.2.2.2.1, h.1.2.2.2.2.1, h.1.2.2.2.2.2.1, h.1.2.2.2.2.2.2.1, h.1.2.2.2.2.2.2.2.1, h.1.2.2.2.2.2.2.2.2.1, h.1.2.2.2.2.2.2.2.2.2.1, h.1.2.2.2.2.2.2.2.2.2.2.1, h.1.2.2.2.2.2.2.2.2.2.2.2.1, h.1.2.2.2.2.2.2.2.2.2.2.2.2.1, h.1.2.2.2.2.2.2.2.2.2.2.2.2.2.1, h.1.2.2.2.2.2.2.2.2.2.2.2.2.2.2.1, c2, h.1.2.2.2.2.2.2.2.2.2.2.2.2.2.2.2.2.1, h.1.2.2.2.2.2.2.2.2.2.2.2.2.2.2.2.2.2.1, h.1.2.2.2.2.2.2.2.2.2.2.2.2.2.2.2.2.2.2⟩, ⟨h.2.1.1, h.2.1.2.1, h.2.1.2.2.1, h.2.1.2.2.2.1, h.2.1.2.2.2.2.1, h.2.1.2.2.2.2.2.1, h.2.1.2.2.2.2.2.2.1, h.2.1.2.2.2.2.2.2.2.1, h.2.1.2.2.2.2.2.2.2.2.1, h.2.1.2.2.2.2.2.2.2.2.2.1, h.2.1.2.2.2.2.2.2.2.2.2.2.1, h.2.1.2.2.2.2.2.2.2.2.2.2.2.1, h.2.1.2.2.2.2.2.2.2.2.2.2.2.2.1, h.2.1.2.2.2.2.2.2.2.2.2.2.2.2.2.1, h.2.1.2.2.2.2.2.2.2.2.2.2.2.2.2.2⟩, ⟨h.2.2.1.1, h.2.2.1.2.1, h.2.2.1.2.2.1, h.2.2.1.2.2.2.1, h.2.2.1.2.2.2.2.1, h.2.2.1.2.2.2.2.2.1, h.2.2.1.2.2.2.2.2.2.1, h.2.2.1.2.2.2.2.2.2.2.1, h.2.2.1.2.2.2.2.2.2.2.2.1, h.2.2.1.2.2.2.2.2.2.2.2.2.1, h.2.2.1.2.2.2.2.2.2.2.2.2.2.1, h.2.2.1.2.2.2.2.2.2.2.2.2.2.2.1, h.2.2.1.2.2.2.2.2.2.2.2.2.2.2.2.1, h.2.2.1.2.2.2.2.2.2.2.2.2.2.2.2.2.1, h.2.2.1.2.2.2.2.2.2.2.2.2.2.2.2.2.2.1, h.2.2.1.2.2.2.2.2.2.2.2.2.2.2.2.2.2.2.1, h.2.2.1.2.2.2.2.2.2.2.2.2.2.2.2.2.2.2.2.1, h.2.2.1.2.2.2.2.2.2.2.2.2.2.2.2.2.2.2.2.2.1, h.2.2.1.2.2.2.2.2.2.2.2.2.2.2.2.2.2.2.2.2.2.1, h.2.2.1.2.2.2.2.2.2.2.2.2.2.2.2.2.2.2.2.2.2.2.1, h.2.2.1.2.2.2.2.2.2.2.2.2.2.2.2.2.2.2.2.2.2.2.2⟩, ⟨h.2.2.2.1, h.2.2.2.2.1, h.2.2.2.2.2.1, h.2.2.2.2.2.2.1, h.2.2.2.2.2.2.2.1, h.2.2.2.2.2.2.2.2.1, h.2.2.2.2.2.2.2.2.2.1, h.2.2.2.2.2.2.2.2.2.2⟩⟩⟩
  show rr1 = (if 0 ≤ y1 ∧ y1 ≤ D then nth (fun w => bI (isB ((σ r_Md_leads)) n D y1 w)) y2 (sW n D y1).toNat else -1)
  exact c1
theorem eq_form {σ : en_m} {n D p : Int} {LW : Int → (Int → Int) → Prop} (h : iV σ n D p LW) {y1 : Int} (g1 : i32 y1) {y2 : Int} (g2 : i32 y2) : en_ct z_X11_form [.inr (.inr (r_WA, 0)), .inl y1, .inl y2] σ (fun r σ1 => en_ct z_X12_form [.inr (.inr (r_Md, 0)), .inl y1, .inl y2] σ1 (fun r' σ2 => (∃ v : Int, r = some (.inl v) ∧ r' = some (.inl v)) ∧ iX σ2)) := by
  have hO : sOk n D p := h.2.2.1.1.1
  have hp7 := hO.2.2.2.2.1
  have hp2 := hO.2.2.2.1
  have hS9 := sS_b (k := D + 1) hO
  have hLd := mN_L hO h.2.2.1.2.2.2.2.2.2.2.2.2.2.2.2.2.2.2.2.2.2.2.1
  have bE := h.2.2.2.2.2.2.1
  have mtp : 0 ≤ (σ r_Md_taped) 0 ∧ (σ r_Md_taped) 0 ≤ 2000 := by have q := h.1.2.1; have q2 := h.2.2.2.1; exact ⟨by omega, by omega⟩
  have msz : ∀ k, 0 ≤ k → k ≤ D → 0 ≤ (σ r_Md_sizes) k ∧ (σ r_Md_sizes) k ≤ 256 := fun k a b => by rw [mN_szL h.2.2.1.2.2.2.2.2.2.2.2.2.2.2.2.2.2.2.2.2.2.2.1 a b]; exact szL_b _ hO
  have mlm : 0 ≤ (σ r_Md_laws) ((σ r_Md_live) 0) ∧ (σ r_Md_laws) ((σ r_Md_live) 0) ≤ 8 := by have q := h.1.2.2.2.2.2.2.2.2.2.1.1; have q2 := h.1.2.2.2.2.2.2.2.2.2.2.1; have q3 := h.2.2.2.2.2.2.2.2.2.1; exact ⟨by omega, by omega⟩
  have mld : ∀ i, 0 ≤ i → i < (σ r_Md_laws) ((σ r_Md_live) 0) → (0 ≤ (σ r_Md_lawLength) (8 * (σ r_Md_live) 0 + i) ∧ (σ r_Md_lawLength) (8 * (σ r_Md_live) 0 + i) ≤ D) ∧ (1 ≤ (σ r_Md_lawLength) (8 * (σ r_Md_live) 0 + i) → 0 < n) := fun i a b => eL_e h.2.2.2.2.2.2.2.2.2.2 i a (by have q := h.2.2.2.2.2.2.2.2.2.1; omega)
  refine ct_mono (ct_X11_form σ n D p LW y1 y2 h.1.1 g1 g2 h.1.2.2.2.2.2.2.2.2.2.2.2.2.2.2.2.1 h.1.2.2.2.2.2.2.2.2.2.1 h.1.2.2.2.2.2.2.2.2.2.2.2.2.2.2.2.2.1) ?_
  rintro _ _ ⟨f_Nought0_row, f_Nought0_reduced, f_Nought0_leading, f_Nought0_forms, f_Nought0_formStart, f_Nought0_sizes, v_Nought0_reached, rr1, rfl, rfl, c1, c2⟩
  refine ct_mono (ct_X12_form _ n D p LW y1 y2 h.2.2.1.1 g1 g2 h.2.2.1.2.2.2.2.2.2.1 h.2.2.1.2.2.2.2.2.2.2.2.2.2.2.2.2.2.2.2.2.2.2.1) ?_
  rintro _ _ ⟨f_Md_row, rr2, rfl, rfl, d1, d2⟩
  have d1 : (if 0 ≤ sAt n D y1 ∧ 0 ≤ sAt n D y2 then (if y1 / 1000 = y2 / 1000 then ∃ X, isNF p (sW n D (y2 / 1000)) (nV n D p LW (y2 / 1000).toNat) (eW (y2 % 1000)) X ∧ rr2 = X (y1 % 1000) else rr2 = 0) else rr2 = -1) := d1
  have d2 : (R97 f_Md_row) := d2
  refine ⟨ans ?_, n, D, p, LW, ⟨⟨h.1.1, h.1.2.1, h.1.2.2.1, h.1.2.2.2.1, h.1.2.2.2.2.1, h.1.2.2.2.2.2.1, h.1.2.2.2.2.2.2.1, h.1.2.2.2.2.2.2.2.1, h.1.2.2.2.2.2.2.2.2.1, h.1.2.2.2.2.2.2.2.2.2.1, h.1.2.2.2.2.2.2.2.2.2.2.1, h.1.2.2.2.2.2.2.2.2.2.2.2.1, h.1.2.2.2.2.2.2.2.2.2.2.2.2.1, h.1.2.2.2.2.2.2.2.2.2.2.2.2.2.1, h.1.2.2.2.2.2.2.2.2.2.2.2.2.2.2.1, c2, h.1.2.2.2.2.2.2.2.2.2.2.2.2.2.2.2.2.1, h.1.2.2.2.2.2.2.2.2.2.2.2.2.2.2.2.2.2.1, h.1.2.2.2.2.2.2.2.2.2.2.2.2.2.2.2.2.2.2⟩, ⟨h.2.1.1, h.2.1.2.1, h.2.1.2.2.1, h.2.1.2.2.2.1, h.2.1.2.2.2.2.1, h.2.1.2.2.2.2.2.1, h.2.1.2.2.2.2.2.2.1, h.2.1.2.2.2.2.2.2.2.1, h.2.1.2.2.2.2.2.2.2.2.1, h.2.1.2.2.2.2.2.2.2.2.2.1, h.2.1.2.2.2.2.2.2.2.2.2.2.1, h.2.1.2.2.2.2.2.2.2.2.2.2.2.1, h.2.1.2.2.2.2.2.2.2.2.2.2.2.2.1, h.2.1.2.2.2.2.2.2.2.2.2.2.2.2.2.1, h.2.1.2.2.2.2.2.2.2.2.2.2.2.2.2.2⟩, ⟨h.2.2.1.1, h.2.2.1.2.1, h.2.2.1.2.2.1, h.2.2.1.2.2.2.1, h.2.2.1.2.2.2.2.1, h.2.2.1.2.2.2.2.2.1, d2, h.2.2.1.2.2.2.2.2.2.2.1, h.2.2.1.2.2.2.2.2.2.2.2.1, h.2.2.1.2.2.2.2.2.2.2.2.2.1, h.2.2.1.2.2.2.2.2.2.2.2.2.2.1, h.2.2.1.2.2.2.2.2.2.2.2.2.2.2.1, h.2.2.1.2.2.2.2.2.2.2.2.2.2.2.2.1, h.2.2.1.2.2.2.2.2.2.2.2.2.2.2.2.2.1, h.2.2.1.2.2.2.2.2.2.2.2.2.2.2.2.2.2.1, h.2.2.1.2.2.2.2.2.2.2.2.2.2.2.2.2.2.2.1, h.2.2.1.2.2.2.2.2.2.2.2.2.2.2.2.2.2.2.2.1, h.2.2.1.2.2.2.2.2.2.2.2.2.2.2.2.2.2.2.2.2.1, h.2.2.1.2.2.2.2.2.2.2.2.2.2.2.2.2.2.2.2.2.2.1, h.2.2.1.2.2.2.2.2.2.2.2.2.2.2.2.2.2.2.2.2.2.2.1, h.2.2.1.2.2.2.2.2.2.2.2.2.2.2.2.2.2.2.2.2.2.2.2⟩, ⟨h.2.2.2.1, h.2.2.2.2.1, h.2.2.2.2.2.1, h.2.2.2.2.2.2.1, h.2.2.2.2.2.2.2.1, h.2.2.2.2.2.2.2.2.1, h.2.2.2.2.2.2.2.2.2.1, h.2.2.2.2.2.2.2.2.2.2⟩⟩⟩
  by_cases q : 0 ≤ sAt n D y1 ∧ 0 ≤ sAt n D y2
  · rw [if_pos q] at c1 d1
    have s1 := sAt_p q.1
    have s2 := sAt_p q.2
    by_cases q2 : y1 / 1000 = y2 / 1000
    · rw [if_pos q2] at c1 d1
      obtain ⟨X, u1, u2⟩ := c1
      obtain ⟨Y, w1, w2⟩ := d1
      rw [u2, w2]
      exact nf_u hO s2.2.1 u1 w1 ⟨s1.2.2.2.1, by rw [← q2]; exact s1.2.2.2.2.1⟩
    · rw [if_neg q2] at c1 d1
      rw [c1, d1]
  · rw [if_neg q] at c1 d1
    rw [c1, d1]
theorem eq_table {σ : en_m} {n D p : Int} {LW : Int → (Int → Int) → Prop} (h : iV σ n D p LW) {y1 : Int} (g1 : i32 y1) {y2 : Int} (g2 : i32 y2) {y3 : Int} (g3 : i32 y3) : en_ct z_X11_table [.inr (.inr (r_WA, 0)), .inl y1, .inl y2, .inl y3] σ (fun r σ1 => en_ct z_X12_table [.inr (.inr (r_Md, 0)), .inl y1, .inl y2, .inl y3] σ1 (fun r' σ2 => (∃ v : Int, r = some (.inl v) ∧ r' = some (.inl v)) ∧ iX σ2)) := by
  have hO : sOk n D p := h.2.2.1.1.1
  have hp7 := hO.2.2.2.2.1
  have hp2 := hO.2.2.2.1
  have hS9 := sS_b (k := D + 1) hO
  have hLd := mN_L hO h.2.2.1.2.2.2.2.2.2.2.2.2.2.2.2.2.2.2.2.2.2.2.1
  have bE := h.2.2.2.2.2.2.1
  have mtp : 0 ≤ (σ r_Md_taped) 0 ∧ (σ r_Md_taped) 0 ≤ 2000 := by have q := h.1.2.1; have q2 := h.2.2.2.1; exact ⟨by omega, by omega⟩
  have msz : ∀ k, 0 ≤ k → k ≤ D → 0 ≤ (σ r_Md_sizes) k ∧ (σ r_Md_sizes) k ≤ 256 := fun k a b => by rw [mN_szL h.2.2.1.2.2.2.2.2.2.2.2.2.2.2.2.2.2.2.2.2.2.2.1 a b]; exact szL_b _ hO
  have mlm : 0 ≤ (σ r_Md_laws) ((σ r_Md_live) 0) ∧ (σ r_Md_laws) ((σ r_Md_live) 0) ≤ 8 := by have q := h.1.2.2.2.2.2.2.2.2.2.1.1; have q2 := h.1.2.2.2.2.2.2.2.2.2.2.1; have q3 := h.2.2.2.2.2.2.2.2.2.1; exact ⟨by omega, by omega⟩
  have mld : ∀ i, 0 ≤ i → i < (σ r_Md_laws) ((σ r_Md_live) 0) → (0 ≤ (σ r_Md_lawLength) (8 * (σ r_Md_live) 0 + i) ∧ (σ r_Md_lawLength) (8 * (σ r_Md_live) 0 + i) ≤ D) ∧ (1 ≤ (σ r_Md_lawLength) (8 * (σ r_Md_live) 0 + i) → 0 < n) := fun i a b => eL_e h.2.2.2.2.2.2.2.2.2.2 i a (by have q := h.2.2.2.2.2.2.2.2.2.1; omega)
  refine ct_mono (ct_X11_table σ n D p LW y1 y2 y3 h.1.1 g1 g2 g3 h.1.2.2.2.2.2.2.2.2.2.2.2.2.2.2.2.1 h.1.2.2.2.2.2.2.2.2.2.1 h.1.2.2.2.2.2.2.2.2.2.2.2.2.2.2.2.2.1) ?_
  rintro _ _ ⟨f_Nought0_row, f_Nought0_reduced, f_Nought0_leading, f_Nought0_forms, f_Nought0_formStart, f_Nought0_sizes, v_Nought0_reached, rr1, rfl, rfl, c1, c2⟩
  refine ct_mono (ct_X12_table _ n D p LW y1 y2 y3 h.2.2.1.1 g1 g2 g3 h.2.2.1.2.2.2.2.2.2.1 h.2.2.1.2.2.2.2.2.2.2.2.2.2.2.2.2.2.2.2.2.2.2.1) ?_
  rintro _ _ ⟨f_Md_row, rr2, rfl, rfl, d1, d2⟩
  have d1 : (if 0 ≤ sAt n D y1 ∧ 0 ≤ sAt n D y2 ∧ 0 ≤ sAt n D y3 then (if D < y1 / 1000 + y2 / 1000 then rr2 = -2 else if y3 / 1000 = y1 / 1000 + y2 / 1000 then ∃ X, isNF p (sW n D (y1 / 1000 + y2 / 1000)) (nV n D p LW (y1 / 1000 + y2 / 1000).toNat) (eW (y1 % 1000 * sW n D (y2 / 1000) + y2 % 1000)) X ∧ rr2 = X (y3 % 1000) else rr2 = 0) else rr2 = -1) := d1
  have d2 : (R97 f_Md_row) := d2
  refine ⟨ans ?_, n, D, p, LW, ⟨⟨h.1.1, h.1.2.1, h.1.2.2.1, h.1.2.2.2.1, h.1.2.2.2.2.1, h.1.2.2.2.2.2.1, h.1.2.2.2.2.2.2.1, h.1.2.2.2.2.2.2.2.1, h.1.2.2.2.2.2.2.2.2.1, h.1.2.2.2.2.2.2.2.2.2.1, h.1.2.2.2.2.2.2.2.2.2.2.1, h.1.2.2.2.2.2.2.2.2.2.2.2.1, h.1.2.2.2.2.2.2.2.2.2.2.2.2.1, h.1.2.2.2.2.2.2.2.2.2.2.2.2.2.1, h.1.2.2.2.2.2.2.2.2.2.2.2.2.2.2.1, c2, h.1.2.2.2.2.2.2.2.2.2.2.2.2.2.2.2.2.1, h.1.2.2.2.2.2.2.2.2.2.2.2.2.2.2.2.2.2.1, h.1.2.2.2.2.2.2.2.2.2.2.2.2.2.2.2.2.2.2⟩, ⟨h.2.1.1, h.2.1.2.1, h.2.1.2.2.1, h.2.1.2.2.2.1, h.2.1.2.2.2.2.1, h.2.1.2.2.2.2.2.1, h.2.1.2.2.2.2.2.2.1, h.2.1.2.2.2.2.2.2.2.1, h.2.1.2.2.2.2.2.2.2.2.1, h.2.1.2.2.2.2.2.2.2.2.2.1, h.2.1.2.2.2.2.2.2.2.2.2.2.1, h.2.1.2.2.2.2.2.2.2.2.2.2.2.1, h.2.1.2.2.2.2.2.2.2.2.2.2.2.2.1, h.2.1.2.2.2.2.2.2.2.2.2.2.2.2.2.1, h.2.1.2.2.2.2.2.2.2.2.2.2.2.2.2.2⟩, ⟨h.2.2.1.1, h.2.2.1.2.1, h.2.2.1.2.2.1, h.2.2.1.2.2.2.1, h.2.2.1.2.2.2.2.1, h.2.2.1.2.2.2.2.2.1, d2, h.2.2.1.2.2.2.2.2.2.2.1, h.2.2.1.2.2.2.2.2.2.2.2.1, h.2.2.1.2.2.2.2.2.2.2.2.2.1, h.2.2.1.2.2.2.2.2.2.2.2.2.2.1, h.2.2.1.2.2.2.2.2.2.2.2.2.2.2.1, h.2.2.1.2.2.2.2.2.2.2.2.2.2.2.2.1, h.2.2.1.2.2.2.2.2.2.2.2.2.2.2.2.2.1, h.2.2.1.2.2.2.2.2.2.2.2.2.2.2.2.2.2.1, h.2.2.1.2.2.2.2.2.2.2.2.2.2.2.2.2.2.2.1, h.2.2.1.2.2.2.2.2.2.2.2.2.2.2.2.2.2.2.2.1, h.2.2.1.2.2.2.2.2.2.2.2.2.2.2.2.2.2.2.2.2.1, h.2.2.1.2.2.2.2.2.2.2.2.2.2.2.2.2.2.2.2.2.2.1, h.2.2.1.2.2.2.2.2.2.2.2.2.2.2.2.2.2.2.2.2.2.2.1, h.2.2.1.2.2.2.2.2.2.2.2.2.2.2.2.2.2.2.2.2.2.2.2⟩, ⟨h.2.2.2.1, h.2.2.2.2.1, h.2.2.2.2.2.1, h.2.2.2.2.2.2.1, h.2.2.2.2.2.2.2.1, h.2.2.2.2.2.2.2.2.1, h.2.2.2.2.2.2.2.2.2.1, h.2.2.2.2.2.2.2.2.2.2⟩⟩⟩
  by_cases q : 0 ≤ sAt n D y1 ∧ 0 ≤ sAt n D y2 ∧ 0 ≤ sAt n D y3
  · rw [if_pos q] at c1 d1
    have s1 := sAt_p q.1
    have s2 := sAt_p q.2.1
    have s3 := sAt_p q.2.2
    by_cases q2 : D < y1 / 1000 + y2 / 1000
    · rw [if_pos q2] at c1 d1
      rw [c1, d1]
    · rw [if_neg q2] at c1 d1
      by_cases q3 : y3 / 1000 = y1 / 1000 + y2 / 1000
      · rw [if_pos q3] at c1 d1
        obtain ⟨X, u1, u2⟩ := c1
        obtain ⟨Y, w1, w2⟩ := d1
        rw [u2, w2]
        exact nf_u hO (by omega) u1 w1 ⟨s3.2.2.2.1, by rw [← q3]; exact s3.2.2.2.2.1⟩
      · rw [if_neg q3] at c1 d1
        rw [c1, d1]
  · rw [if_neg q] at c1 d1
    rw [c1, d1]
theorem eq_closed {σ : en_m} {n D p : Int} {LW : Int → (Int → Int) → Prop} (h : iV σ n D p LW) : en_ct z_X11_closed [.inr (.inr (r_WA, 0))] σ (fun r σ1 => en_ct z_X12_closed [.inr (.inr (r_Md, 0))] σ1 (fun r' σ2 => (∃ v : Int, r = some (.inl v) ∧ r' = some (.inl v)) ∧ iX σ2)) := by
  have hO : sOk n D p := h.2.2.1.1.1
  have hp7 := hO.2.2.2.2.1
  have hp2 := hO.2.2.2.1
  have hS9 := sS_b (k := D + 1) hO
  have hLd := mN_L hO h.2.2.1.2.2.2.2.2.2.2.2.2.2.2.2.2.2.2.2.2.2.2.1
  have bE := h.2.2.2.2.2.2.1
  have mtp : 0 ≤ (σ r_Md_taped) 0 ∧ (σ r_Md_taped) 0 ≤ 2000 := by have q := h.1.2.1; have q2 := h.2.2.2.1; exact ⟨by omega, by omega⟩
  have msz : ∀ k, 0 ≤ k → k ≤ D → 0 ≤ (σ r_Md_sizes) k ∧ (σ r_Md_sizes) k ≤ 256 := fun k a b => by rw [mN_szL h.2.2.1.2.2.2.2.2.2.2.2.2.2.2.2.2.2.2.2.2.2.2.1 a b]; exact szL_b _ hO
  have mlm : 0 ≤ (σ r_Md_laws) ((σ r_Md_live) 0) ∧ (σ r_Md_laws) ((σ r_Md_live) 0) ≤ 8 := by have q := h.1.2.2.2.2.2.2.2.2.2.1.1; have q2 := h.1.2.2.2.2.2.2.2.2.2.2.1; have q3 := h.2.2.2.2.2.2.2.2.2.1; exact ⟨by omega, by omega⟩
  have mld : ∀ i, 0 ≤ i → i < (σ r_Md_laws) ((σ r_Md_live) 0) → (0 ≤ (σ r_Md_lawLength) (8 * (σ r_Md_live) 0 + i) ∧ (σ r_Md_lawLength) (8 * (σ r_Md_live) 0 + i) ≤ D) ∧ (1 ≤ (σ r_Md_lawLength) (8 * (σ r_Md_live) 0 + i) → 0 < n) := fun i a b => eL_e h.2.2.2.2.2.2.2.2.2.2 i a (by have q := h.2.2.2.2.2.2.2.2.2.1; omega)
  refine ct_mono (ct_X11_closed σ n D p LW (σ r_Md_leads) h.1.1 h.1.2.2.2.2.2.2.2.2.2.2.2.2.2.2.2.1 h.1.2.2.2.2.2.2.2.2.2.1 h.1.2.2.2.2.2.2.2.2.2.2.2.2.2.2.2.2.1 hLd) ?_
  rintro _ _ ⟨f_Nought0_row, f_Nought0_reduced, f_Nought0_leading, f_Nought0_forms, f_Nought0_formStart, f_Nought0_sizes, v_Nought0_reached, rr1, rfl, rfl, c1, c2⟩
  refine ct_mono (ct_X12_closed _ n D p h.2.2.1.1 h.2.2.1.2.2.2.2.2.2.2.2.2.2.2.2.2.2.2.2.2.2.2.1.2.2) ?_
  rintro _ _ ⟨rr2, rfl, rfl, d1⟩
  have d1 : ((rr2 = 1 ∧ cls ((σ r_Md_leads)) n D) ∨ (rr2 = 0 ∧ ¬ cls ((σ r_Md_leads)) n D)) := d1
  refine ⟨ans ?_, n, D, p, LW, ⟨⟨h.1.1, h.1.2.1, h.1.2.2.1, h.1.2.2.2.1, h.1.2.2.2.2.1, h.1.2.2.2.2.2.1, h.1.2.2.2.2.2.2.1, h.1.2.2.2.2.2.2.2.1, h.1.2.2.2.2.2.2.2.2.1, h.1.2.2.2.2.2.2.2.2.2.1, h.1.2.2.2.2.2.2.2.2.2.2.1, h.1.2.2.2.2.2.2.2.2.2.2.2.1, h.1.2.2.2.2.2.2.2.2.2.2.2.2.1, h.1.2.2.2.2.2.2.2.2.2.2.2.2.2.1, h.1.2.2.2.2.2.2.2.2.2.2.2.2.2.2.1, c2, h.1.2.2.2.2.2.2.2.2.2.2.2.2.2.2.2.2.1, h.1.2.2.2.2.2.2.2.2.2.2.2.2.2.2.2.2.2.1, h.1.2.2.2.2.2.2.2.2.2.2.2.2.2.2.2.2.2.2⟩, ⟨h.2.1.1, h.2.1.2.1, h.2.1.2.2.1, h.2.1.2.2.2.1, h.2.1.2.2.2.2.1, h.2.1.2.2.2.2.2.1, h.2.1.2.2.2.2.2.2.1, h.2.1.2.2.2.2.2.2.2.1, h.2.1.2.2.2.2.2.2.2.2.1, h.2.1.2.2.2.2.2.2.2.2.2.1, h.2.1.2.2.2.2.2.2.2.2.2.2.1, h.2.1.2.2.2.2.2.2.2.2.2.2.2.1, h.2.1.2.2.2.2.2.2.2.2.2.2.2.2.1, h.2.1.2.2.2.2.2.2.2.2.2.2.2.2.2.1, h.2.1.2.2.2.2.2.2.2.2.2.2.2.2.2.2⟩, ⟨h.2.2.1.1, h.2.2.1.2.1, h.2.2.1.2.2.1, h.2.2.1.2.2.2.1, h.2.2.1.2.2.2.2.1, h.2.2.1.2.2.2.2.2.1, h.2.2.1.2.2.2.2.2.2.1, h.2.2.1.2.2.2.2.2.2.2.1, h.2.2.1.2.2.2.2.2.2.2.2.1, h.2.2.1.2.2.2.2.2.2.2.2.2.1, h.2.2.1.2.2.2.2.2.2.2.2.2.2.1, h.2.2.1.2.2.2.2.2.2.2.2.2.2.2.1, h.2.2.1.2.2.2.2.2.2.2.2.2.2.2.2.1, h.2.2.1.2.2.2.2.2.2.2.2.2.2.2.2.2.1, h.2.2.1.2.2.2.2.2.2.2.2.2.2.2.2.2.2.1, h.2.2.1.2.2.2.2.2.2.2.2.2.2.2.2.2.2.2.1, h.2.2.1.2.2.2.2.2.2.2.2.2.2.2.2.2.2.2.2.1, h.2.2.1.2.2.2.2.2.2.2.2.2.2.2.2.2.2.2.2.2.1, h.2.2.1.2.2.2.2.2.2.2.2.2.2.2.2.2.2.2.2.2.2.1, h.2.2.1.2.2.2.2.2.2.2.2.2.2.2.2.2.2.2.2.2.2.2.1, h.2.2.1.2.2.2.2.2.2.2.2.2.2.2.2.2.2.2.2.2.2.2.2⟩, ⟨h.2.2.2.1, h.2.2.2.2.1, h.2.2.2.2.2.1, h.2.2.2.2.2.2.1, h.2.2.2.2.2.2.2.1, h.2.2.2.2.2.2.2.2.1, h.2.2.2.2.2.2.2.2.2.1, h.2.2.2.2.2.2.2.2.2.2⟩⟩⟩
  rcases c1 with ⟨u1, u2⟩ | ⟨u1, u2⟩ <;> rcases d1 with ⟨w1, w2⟩ | ⟨w1, w2⟩
  · rw [u1, w1]
  · exact absurd u2 w2
  · exact absurd w2 u2
  · rw [u1, w1]
theorem eq_weight {σ : en_m} {n D p : Int} {LW : Int → (Int → Int) → Prop} (h : iV σ n D p LW) : en_ct z_X11_weight [.inr (.inr (r_WA, 0))] σ (fun r σ1 => en_ct z_X12_weight [.inr (.inr (r_Md, 0))] σ1 (fun r' σ2 => (∃ v : Int, r = some (.inl v) ∧ r' = some (.inl v)) ∧ iX σ2)) := by
  have hO : sOk n D p := h.2.2.1.1.1
  have hp7 := hO.2.2.2.2.1
  have hp2 := hO.2.2.2.1
  have hS9 := sS_b (k := D + 1) hO
  have hLd := mN_L hO h.2.2.1.2.2.2.2.2.2.2.2.2.2.2.2.2.2.2.2.2.2.2.1
  have bE := h.2.2.2.2.2.2.1
  have mtp : 0 ≤ (σ r_Md_taped) 0 ∧ (σ r_Md_taped) 0 ≤ 2000 := by have q := h.1.2.1; have q2 := h.2.2.2.1; exact ⟨by omega, by omega⟩
  have msz : ∀ k, 0 ≤ k → k ≤ D → 0 ≤ (σ r_Md_sizes) k ∧ (σ r_Md_sizes) k ≤ 256 := fun k a b => by rw [mN_szL h.2.2.1.2.2.2.2.2.2.2.2.2.2.2.2.2.2.2.2.2.2.2.1 a b]; exact szL_b _ hO
  have mlm : 0 ≤ (σ r_Md_laws) ((σ r_Md_live) 0) ∧ (σ r_Md_laws) ((σ r_Md_live) 0) ≤ 8 := by have q := h.1.2.2.2.2.2.2.2.2.2.1.1; have q2 := h.1.2.2.2.2.2.2.2.2.2.2.1; have q3 := h.2.2.2.2.2.2.2.2.2.1; exact ⟨by omega, by omega⟩
  have mld : ∀ i, 0 ≤ i → i < (σ r_Md_laws) ((σ r_Md_live) 0) → (0 ≤ (σ r_Md_lawLength) (8 * (σ r_Md_live) 0 + i) ∧ (σ r_Md_lawLength) (8 * (σ r_Md_live) 0 + i) ≤ D) ∧ (1 ≤ (σ r_Md_lawLength) (8 * (σ r_Md_live) 0 + i) → 0 < n) := fun i a b => eL_e h.2.2.2.2.2.2.2.2.2.2 i a (by have q := h.2.2.2.2.2.2.2.2.2.1; omega)
  refine ct_mono (ct_X11_weight σ n D p LW (σ r_Md_leads) h.1.1 h.1.2.2.2.2.2.2.2.2.2.2.2.2.2.2.2.1 h.1.2.2.2.2.2.2.2.2.2.1 h.1.2.2.2.2.2.2.2.2.2.2.2.2.2.2.2.2.1 hLd) ?_
  rintro _ _ ⟨f_Nought0_row, f_Nought0_reduced, f_Nought0_leading, f_Nought0_forms, f_Nought0_formStart, f_Nought0_sizes, v_Nought0_reached, rr1, rfl, rfl, c1, c2⟩
  refine ct_mono (ct_X12_weight _ n D p h.2.2.1.1 msz) ?_
  rintro _ _ ⟨rr2, rfl, rfl, d1⟩
  have d1 : ((rr2 = -2 ∧ ∀ k, 0 ≤ k → k ≤ D → ¬ (σ r_Md_sizes) k = 0) ∨ ((∃ k, 0 ≤ k ∧ k ≤ D ∧ (σ r_Md_sizes) k = 0) ∧ rr2 = sm (fun k => (σ r_Md_sizes) k) (D + 1).toNat)) := d1
  have hz : ∀ k, 0 ≤ k → k ≤ D → szL (σ r_Md_leads) n D k = (σ r_Md_sizes) k := fun k a b => (mN_szL h.2.2.1.2.2.2.2.2.2.2.2.2.2.2.2.2.2.2.2.2.2.2.1 a b).symm
  refine ⟨ans ?_, n, D, p, LW, ⟨⟨h.1.1, h.1.2.1, h.1.2.2.1, h.1.2.2.2.1, h.1.2.2.2.2.1, h.1.2.2.2.2.2.1, h.1.2.2.2.2.2.2.1, h.1.2.2.2.2.2.2.2.1, h.1.2.2.2.2.2.2.2.2.1, h.1.2.2.2.2.2.2.2.2.2.1, h.1.2.2.2.2.2.2.2.2.2.2.1, h.1.2.2.2.2.2.2.2.2.2.2.2.1, h.1.2.2.2.2.2.2.2.2.2.2.2.2.1, h.1.2.2.2.2.2.2.2.2.2.2.2.2.2.1, h.1.2.2.2.2.2.2.2.2.2.2.2.2.2.2.1, c2, h.1.2.2.2.2.2.2.2.2.2.2.2.2.2.2.2.2.1, h.1.2.2.2.2.2.2.2.2.2.2.2.2.2.2.2.2.2.1, h.1.2.2.2.2.2.2.2.2.2.2.2.2.2.2.2.2.2.2⟩, ⟨h.2.1.1, h.2.1.2.1, h.2.1.2.2.1, h.2.1.2.2.2.1, h.2.1.2.2.2.2.1, h.2.1.2.2.2.2.2.1, h.2.1.2.2.2.2.2.2.1, h.2.1.2.2.2.2.2.2.2.1, h.2.1.2.2.2.2.2.2.2.2.1, h.2.1.2.2.2.2.2.2.2.2.2.1, h.2.1.2.2.2.2.2.2.2.2.2.2.1, h.2.1.2.2.2.2.2.2.2.2.2.2.2.1, h.2.1.2.2.2.2.2.2.2.2.2.2.2.2.1, h.2.1.2.2.2.2.2.2.2.2.2.2.2.2.2.1, h.2.1.2.2.2.2.2.2.2.2.2.2.2.2.2.2⟩, ⟨h.2.2.1.1, h.2.2.1.2.1, h.2.2.1.2.2.1, h.2.2.1.2.2.2.1, h.2.2.1.2.2.2.2.1, h.2.2.1.2.2.2.2.2.1, h.2.2.1.2.2.2.2.2.2.1, h.2.2.1.2.2.2.2.2.2.2.1, h.2.2.1.2.2.2.2.2.2.2.2.1, h.2.2.1.2.2.2.2.2.2.2.2.2.1, h.2.2.1.2.2.2.2.2.2.2.2.2.2.1, h.2.2.1.2.2.2.2.2.2.2.2.2.2.2.1, h.2.2.1.2.2.2.2.2.2.2.2.2.2.2.2.1, h.2.2.1.2.2.2.2.2.2.2.2.2.2.2.2.2.1, h.2.2.1.2.2.2.2.2.2.2.2.2.2.2.2.2.2.1, h.2.2.1.2.2.2.2.2.2.2.2.2.2.2.2.2.2.2.1, h.2.2.1.2.2.2.2.2.2.2.2.2.2.2.2.2.2.2.2.1, h.2.2.1.2.2.2.2.2.2.2.2.2.2.2.2.2.2.2.2.2.1, h.2.2.1.2.2.2.2.2.2.2.2.2.2.2.2.2.2.2.2.2.2.1, h.2.2.1.2.2.2.2.2.2.2.2.2.2.2.2.2.2.2.2.2.2.2.1, h.2.2.1.2.2.2.2.2.2.2.2.2.2.2.2.2.2.2.2.2.2.2.2⟩, ⟨h.2.2.2.1, h.2.2.2.2.1, h.2.2.2.2.2.1, h.2.2.2.2.2.2.1, h.2.2.2.2.2.2.2.1, h.2.2.2.2.2.2.2.2.1, h.2.2.2.2.2.2.2.2.2.1, h.2.2.2.2.2.2.2.2.2.2⟩⟩⟩
  rcases c1 with ⟨u1, u2⟩ | ⟨⟨k, k0, k1, k2⟩, u2⟩ <;> rcases d1 with ⟨w1, w2⟩ | ⟨⟨m, m0, m1, m2⟩, w2⟩
  · rw [u1, w1]
  · exact absurd (by rw [hz m m0 m1]; exact m2) (u2 m m0 m1)
  · exact absurd (by rw [← hz k k0 k1]; exact k2) (w2 k k0 k1)
  · rw [u2, w2]
    exact sm_ext _ (fun j a b => hz j a (by omega))
theorem eq_trace {σ : en_m} {n D p : Int} {LW : Int → (Int → Int) → Prop} (h : iV σ n D p LW) {y1 : Int} (g1 : i32 y1) : en_ct z_X11_trace [.inr (.inr (r_WA, 0)), .inl y1] σ (fun r σ1 => en_ct z_X12_trace [.inr (.inr (r_Md, 0)), .inl y1] σ1 (fun r' σ2 => (∃ v : Int, r = some (.inl v) ∧ r' = some (.inl v)) ∧ iX σ2)) := by
  have hO : sOk n D p := h.2.2.1.1.1
  have hp7 := hO.2.2.2.2.1
  have hp2 := hO.2.2.2.1
  have hS9 := sS_b (k := D + 1) hO
  have hLd := mN_L hO h.2.2.1.2.2.2.2.2.2.2.2.2.2.2.2.2.2.2.2.2.2.2.1
  have bE := h.2.2.2.2.2.2.1
  have mtp : 0 ≤ (σ r_Md_taped) 0 ∧ (σ r_Md_taped) 0 ≤ 2000 := by have q := h.1.2.1; have q2 := h.2.2.2.1; exact ⟨by omega, by omega⟩
  have msz : ∀ k, 0 ≤ k → k ≤ D → 0 ≤ (σ r_Md_sizes) k ∧ (σ r_Md_sizes) k ≤ 256 := fun k a b => by rw [mN_szL h.2.2.1.2.2.2.2.2.2.2.2.2.2.2.2.2.2.2.2.2.2.2.1 a b]; exact szL_b _ hO
  have mlm : 0 ≤ (σ r_Md_laws) ((σ r_Md_live) 0) ∧ (σ r_Md_laws) ((σ r_Md_live) 0) ≤ 8 := by have q := h.1.2.2.2.2.2.2.2.2.2.1.1; have q2 := h.1.2.2.2.2.2.2.2.2.2.2.1; have q3 := h.2.2.2.2.2.2.2.2.2.1; exact ⟨by omega, by omega⟩
  have mld : ∀ i, 0 ≤ i → i < (σ r_Md_laws) ((σ r_Md_live) 0) → (0 ≤ (σ r_Md_lawLength) (8 * (σ r_Md_live) 0 + i) ∧ (σ r_Md_lawLength) (8 * (σ r_Md_live) 0 + i) ≤ D) ∧ (1 ≤ (σ r_Md_lawLength) (8 * (σ r_Md_live) 0 + i) → 0 < n) := fun i a b => eL_e h.2.2.2.2.2.2.2.2.2.2 i a (by have q := h.2.2.2.2.2.2.2.2.2.1; omega)
  refine ct_mono (ct_X11_trace σ n D p LW (σ r_Md_leads) y1 h.1.1 g1 h.1.2.2.2.2.2.2.2.2.2.2.2.1 h.1.2.2.2.2.2.2.2.2.2.2.2.2.2.2.2.1 h.1.2.2.2.2.2.2.2.2.2.1 h.1.2.2.2.2.2.2.2.2.2.2.2.2.2.2.2.2.1 hLd) ?_
  rintro _ _ ⟨f_Nought0_row, f_Nought0_reduced, f_Nought0_leading, f_Nought0_forms, f_Nought0_formStart, f_Nought0_sizes, v_Nought0_reached, rr1, rfl, rfl, c1, c2⟩
  refine ct_mono (ct_X12_trace _ n D p LW y1 h.2.2.1.1 g1 h.2.2.1.2.2.2.2.2.2.2.2.2.2.2.2.2.1 msz h.2.2.1.2.2.2.2.2.2.2.2.2.2.2.2.2.2.2.2.2.2.2.1) ?_
  rintro _ _ ⟨rr2, rfl, rfl, d1⟩
  have d1 : ((¬ (0 ≤ y1 ∧ y1 ≤ 5) ∧ rr2 = -1) ∨ ((0 ≤ y1 ∧ y1 ≤ 5) ∧ ((rr2 = -2 ∧ ∀ k, 0 ≤ k → k ≤ D → ¬ (σ r_Md_sizes) k = 0) ∨ ((∃ k, 0 ≤ k ∧ k ≤ D ∧ (σ r_Md_sizes) k = 0) ∧ rr2 = (sm (fun k => (σ r_Md_sizes) k) (D + 1).toNat * (σ r_Md_element) (400 * y1)) % p)))) := d1
  have hz : ∀ k, 0 ≤ k → k ≤ D → szL (σ r_Md_leads) n D k = (σ r_Md_sizes) k := fun k a b => (mN_szL h.2.2.1.2.2.2.2.2.2.2.2.2.2.2.2.2.2.2.2.2.2.2.1 a b).symm
  refine ⟨ans ?_, n, D, p, LW, ⟨⟨h.1.1, h.1.2.1, h.1.2.2.1, h.1.2.2.2.1, h.1.2.2.2.2.1, h.1.2.2.2.2.2.1, h.1.2.2.2.2.2.2.1, h.1.2.2.2.2.2.2.2.1, h.1.2.2.2.2.2.2.2.2.1, h.1.2.2.2.2.2.2.2.2.2.1, h.1.2.2.2.2.2.2.2.2.2.2.1, h.1.2.2.2.2.2.2.2.2.2.2.2.1, h.1.2.2.2.2.2.2.2.2.2.2.2.2.1, h.1.2.2.2.2.2.2.2.2.2.2.2.2.2.1, h.1.2.2.2.2.2.2.2.2.2.2.2.2.2.2.1, c2, h.1.2.2.2.2.2.2.2.2.2.2.2.2.2.2.2.2.1, h.1.2.2.2.2.2.2.2.2.2.2.2.2.2.2.2.2.2.1, h.1.2.2.2.2.2.2.2.2.2.2.2.2.2.2.2.2.2.2⟩, ⟨h.2.1.1, h.2.1.2.1, h.2.1.2.2.1, h.2.1.2.2.2.1, h.2.1.2.2.2.2.1, h.2.1.2.2.2.2.2.1, h.2.1.2.2.2.2.2.2.1, h.2.1.2.2.2.2.2.2.2.1, h.2.1.2.2.2.2.2.2.2.2.1, h.2.1.2.2.2.2.2.2.2.2.2.1, h.2.1.2.2.2.2.2.2.2.2.2.2.1, h.2.1.2.2.2.2.2.2.2.2.2.2.2.1, h.2.1.2.2.2.2.2.2.2.2.2.2.2.2.1, h.2.1.2.2.2.2.2.2.2.2.2.2.2.2.2.1, h.2.1.2.2.2.2.2.2.2.2.2.2.2.2.2.2⟩, ⟨h.2.2.1.1, h.2.2.1.2.1, h.2.2.1.2.2.1, h.2.2.1.2.2.2.1, h.2.2.1.2.2.2.2.1, h.2.2.1.2.2.2.2.2.1, h.2.2.1.2.2.2.2.2.2.1, h.2.2.1.2.2.2.2.2.2.2.1, h.2.2.1.2.2.2.2.2.2.2.2.1, h.2.2.1.2.2.2.2.2.2.2.2.2.1, h.2.2.1.2.2.2.2.2.2.2.2.2.2.1, h.2.2.1.2.2.2.2.2.2.2.2.2.2.2.1, h.2.2.1.2.2.2.2.2.2.2.2.2.2.2.2.1, h.2.2.1.2.2.2.2.2.2.2.2.2.2.2.2.2.1, h.2.2.1.2.2.2.2.2.2.2.2.2.2.2.2.2.2.1, h.2.2.1.2.2.2.2.2.2.2.2.2.2.2.2.2.2.2.1, h.2.2.1.2.2.2.2.2.2.2.2.2.2.2.2.2.2.2.2.1, h.2.2.1.2.2.2.2.2.2.2.2.2.2.2.2.2.2.2.2.2.1, h.2.2.1.2.2.2.2.2.2.2.2.2.2.2.2.2.2.2.2.2.2.1, h.2.2.1.2.2.2.2.2.2.2.2.2.2.2.2.2.2.2.2.2.2.2.1, h.2.2.1.2.2.2.2.2.2.2.2.2.2.2.2.2.2.2.2.2.2.2.2⟩, ⟨h.2.2.2.1, h.2.2.2.2.1, h.2.2.2.2.2.1, h.2.2.2.2.2.2.1, h.2.2.2.2.2.2.2.1, h.2.2.2.2.2.2.2.2.1, h.2.2.2.2.2.2.2.2.2.1, h.2.2.2.2.2.2.2.2.2.2⟩⟩⟩
  rcases c1 with ⟨t1, u1⟩ | ⟨t1, ⟨u1, u2⟩ | ⟨⟨k, k0, k1, k2⟩, u2⟩⟩ <;> rcases d1 with ⟨t2, w1⟩ | ⟨t2, ⟨w1, w2⟩ | ⟨⟨m, m0, m1, m2⟩, w2⟩⟩
  · rw [u1, w1]
  · exact absurd t2 t1
  · exact absurd t2 t1
  · exact absurd t1 t2
  · rw [u1, w1]
  · exact absurd (by rw [hz m m0 m1]; exact m2) (u2 m m0 m1)
  · exact absurd t1 t2
  · exact absurd (by rw [← hz k k0 k1]; exact k2) (w2 k k0 k1)
  · have e := bE.1 y1 0 t1 ⟨Int.le_refl 0, by have := sS_word hO (Int.le_refl 0) (show 0 ≤ 0 ∧ 0 < sW n D 0 by rw [sW_0 (by omega)]; decide); omega⟩
    rw [Int.add_zero, Int.add_zero] at e
    rw [u2, w2, e, sm_ext _ (fun j a b => hz j a (by omega))]
theorem eq_left {σ : en_m} {n D p : Int} {LW : Int → (Int → Int) → Prop} (h : iV σ n D p LW) {y1 : Int} (g1 : i32 y1) : en_ct z_X11_left [.inr (.inr (r_WA, 0)), .inl y1] σ (fun r σ1 => en_ct z_X12_left [.inr (.inr (r_Md, 0)), .inl y1] σ1 (fun r' σ2 => (∃ v : Int, r = some (.inr (.inl v)) ∧ r' = some (.inr (.inl v))) ∧ iX σ2)) := by
  have hO : sOk n D p := h.2.2.1.1.1
  have hp7 := hO.2.2.2.2.1
  have hp2 := hO.2.2.2.1
  have hS9 := sS_b (k := D + 1) hO
  have hLd := mN_L hO h.2.2.1.2.2.2.2.2.2.2.2.2.2.2.2.2.2.2.2.2.2.2.1
  have bE := h.2.2.2.2.2.2.1
  have mtp : 0 ≤ (σ r_Md_taped) 0 ∧ (σ r_Md_taped) 0 ≤ 2000 := by have q := h.1.2.1; have q2 := h.2.2.2.1; exact ⟨by omega, by omega⟩
  have msz : ∀ k, 0 ≤ k → k ≤ D → 0 ≤ (σ r_Md_sizes) k ∧ (σ r_Md_sizes) k ≤ 256 := fun k a b => by rw [mN_szL h.2.2.1.2.2.2.2.2.2.2.2.2.2.2.2.2.2.2.2.2.2.2.1 a b]; exact szL_b _ hO
  have mlm : 0 ≤ (σ r_Md_laws) ((σ r_Md_live) 0) ∧ (σ r_Md_laws) ((σ r_Md_live) 0) ≤ 8 := by have q := h.1.2.2.2.2.2.2.2.2.2.1.1; have q2 := h.1.2.2.2.2.2.2.2.2.2.2.1; have q3 := h.2.2.2.2.2.2.2.2.2.1; exact ⟨by omega, by omega⟩
  have mld : ∀ i, 0 ≤ i → i < (σ r_Md_laws) ((σ r_Md_live) 0) → (0 ≤ (σ r_Md_lawLength) (8 * (σ r_Md_live) 0 + i) ∧ (σ r_Md_lawLength) (8 * (σ r_Md_live) 0 + i) ≤ D) ∧ (1 ≤ (σ r_Md_lawLength) (8 * (σ r_Md_live) 0 + i) → 0 < n) := fun i a b => eL_e h.2.2.2.2.2.2.2.2.2.2 i a (by have q := h.2.2.2.2.2.2.2.2.2.1; omega)
  refine ct_mono (ct_X11_left σ n D p LW (σ r_Md_leads) y1 h.1.1 g1 h.1.2.2.2.2.2.2.2.2.2.2.2.2.2.2.2.2.2.1 h.1.2.2.2.2.2.2.2.2.2.2.2.2.2.2.2.1 h.1.2.2.2.2.2.2.2.2.2.1 h.1.2.2.2.2.2.2.2.2.2.2.2.2.2.2.2.2.1 hLd) ?_
  rintro _ _ ⟨f_Nought0_row, f_Nought0_reduced, f_Nought0_leading, f_Nought0_forms, f_Nought0_formStart, f_Nought0_sizes, v_Nought0_reached, f_Machine_waysA, v_Machine_ways, v_Machine_waysNext, rr1, rfl, rfl, c1, c2, c3⟩
  refine ct_mono (ct_X12_left _ n D p y1 h.2.2.1.1 g1 h.2.2.1.2.2.2.2.2.2.2.2.2.2.2.2.2.2.2.2.2.2.2.1.2.2 h.2.2.1.2.2.2.2.2.2.2.2.2.2.2.2.2.2.2.2.1 msz) ?_
  rintro _ _ ⟨v_Md_placeLetters, f_Md_isLeft, f_Md_ways, f_Md_waysThen, rr2, rfl, rfl, d1, d2⟩
  have d1 : ((¬ (0 ≤ y1 ∧ y1 ≤ 60) ∧ rr2 = -1) ∨ ((0 ≤ y1 ∧ y1 ≤ 60) ∧ ((y1 ≤ D ∧ rr2 = (σ r_Md_sizes) y1) ∨ (D < y1 ∧ ∃ q, isPL ((σ r_Md_leads)) n D q ∧ rr2 = smS (wy ((σ r_Md_leads)) n D q (y1 - q).toNat) (sW n D q).toNat)))) := d1
  have d2 : (R01 f_Md_isLeft) := d2
  have hz : ∀ k, 0 ≤ k → k ≤ D → szL (σ r_Md_leads) n D k = (σ r_Md_sizes) k := fun k a b => (mN_szL h.2.2.1.2.2.2.2.2.2.2.2.2.2.2.2.2.2.2.2.2.2.2.1 a b).symm
  refine ⟨ansl ?_, n, D, p, LW, ⟨⟨h.1.1, h.1.2.1, h.1.2.2.1, h.1.2.2.2.1, h.1.2.2.2.2.1, h.1.2.2.2.2.2.1, h.1.2.2.2.2.2.2.1, h.1.2.2.2.2.2.2.2.1, h.1.2.2.2.2.2.2.2.2.1, h.1.2.2.2.2.2.2.2.2.2.1, h.1.2.2.2.2.2.2.2.2.2.2.1, h.1.2.2.2.2.2.2.2.2.2.2.2.1, h.1.2.2.2.2.2.2.2.2.2.2.2.2.1, h.1.2.2.2.2.2.2.2.2.2.2.2.2.2.1, h.1.2.2.2.2.2.2.2.2.2.2.2.2.2.2.1, c2, h.1.2.2.2.2.2.2.2.2.2.2.2.2.2.2.2.2.1, c3, h.1.2.2.2.2.2.2.2.2.2.2.2.2.2.2.2.2.2.2⟩, ⟨h.2.1.1, h.2.1.2.1, h.2.1.2.2.1, h.2.1.2.2.2.1, h.2.1.2.2.2.2.1, h.2.1.2.2.2.2.2.1, h.2.1.2.2.2.2.2.2.1, h.2.1.2.2.2.2.2.2.2.1, h.2.1.2.2.2.2.2.2.2.2.1, h.2.1.2.2.2.2.2.2.2.2.2.1, h.2.1.2.2.2.2.2.2.2.2.2.2.1, h.2.1.2.2.2.2.2.2.2.2.2.2.2.1, h.2.1.2.2.2.2.2.2.2.2.2.2.2.2.1, h.2.1.2.2.2.2.2.2.2.2.2.2.2.2.2.1, h.2.1.2.2.2.2.2.2.2.2.2.2.2.2.2.2⟩, ⟨h.2.2.1.1, h.2.2.1.2.1, h.2.2.1.2.2.1, h.2.2.1.2.2.2.1, h.2.2.1.2.2.2.2.1, h.2.2.1.2.2.2.2.2.1, h.2.2.1.2.2.2.2.2.2.1, h.2.2.1.2.2.2.2.2.2.2.1, h.2.2.1.2.2.2.2.2.2.2.2.1, h.2.2.1.2.2.2.2.2.2.2.2.2.1, h.2.2.1.2.2.2.2.2.2.2.2.2.2.1, h.2.2.1.2.2.2.2.2.2.2.2.2.2.2.1, h.2.2.1.2.2.2.2.2.2.2.2.2.2.2.2.1, h.2.2.1.2.2.2.2.2.2.2.2.2.2.2.2.2.1, h.2.2.1.2.2.2.2.2.2.2.2.2.2.2.2.2.2.1, h.2.2.1.2.2.2.2.2.2.2.2.2.2.2.2.2.2.2.1, d2, h.2.2.1.2.2.2.2.2.2.2.2.2.2.2.2.2.2.2.2.2.1, h.2.2.1.2.2.2.2.2.2.2.2.2.2.2.2.2.2.2.2.2.2.1, h.2.2.1.2.2.2.2.2.2.2.2.2.2.2.2.2.2.2.2.2.2.2.1, h.2.2.1.2.2.2.2.2.2.2.2.2.2.2.2.2.2.2.2.2.2.2.2⟩, ⟨h.2.2.2.1, h.2.2.2.2.1, h.2.2.2.2.2.1, h.2.2.2.2.2.2.1, h.2.2.2.2.2.2.2.1, h.2.2.2.2.2.2.2.2.1, h.2.2.2.2.2.2.2.2.2.1, h.2.2.2.2.2.2.2.2.2.2⟩⟩⟩
  rcases c1 with ⟨t1, u1⟩ | ⟨t1, ⟨l1, u1⟩ | ⟨l1, q, p1, u1⟩⟩ <;> rcases d1 with ⟨t2, w1⟩ | ⟨t2, ⟨l2, w1⟩ | ⟨l2, r, p2, w1⟩⟩
  · rw [u1, w1]
  · exact absurd t2 t1
  · exact absurd t2 t1
  · exact absurd t1 t2
  · rw [u1, w1]
    exact hz _ t1.1 l1
  · omega
  · exact absurd t1 t2
  · omega
  · rw [u1, w1, isPL_uniq p1 p2]
theorem eq_growth {σ : en_m} {n D p : Int} {LW : Int → (Int → Int) → Prop} (h : iV σ n D p LW) : en_ct z_X11_growth [.inr (.inr (r_WA, 0))] σ (fun r σ1 => en_ct z_X12_growth [.inr (.inr (r_Md, 0))] σ1 (fun r' σ2 => (∃ v : Int, r = some (.inl v) ∧ r' = some (.inl v)) ∧ iX σ2)) := by
  have hO : sOk n D p := h.2.2.1.1.1
  have hp7 := hO.2.2.2.2.1
  have hp2 := hO.2.2.2.1
  have hS9 := sS_b (k := D + 1) hO
  have hLd := mN_L hO h.2.2.1.2.2.2.2.2.2.2.2.2.2.2.2.2.2.2.2.2.2.2.1
  have bE := h.2.2.2.2.2.2.1
  have mtp : 0 ≤ (σ r_Md_taped) 0 ∧ (σ r_Md_taped) 0 ≤ 2000 := by have q := h.1.2.1; have q2 := h.2.2.2.1; exact ⟨by omega, by omega⟩
  have msz : ∀ k, 0 ≤ k → k ≤ D → 0 ≤ (σ r_Md_sizes) k ∧ (σ r_Md_sizes) k ≤ 256 := fun k a b => by rw [mN_szL h.2.2.1.2.2.2.2.2.2.2.2.2.2.2.2.2.2.2.2.2.2.2.1 a b]; exact szL_b _ hO
  have mlm : 0 ≤ (σ r_Md_laws) ((σ r_Md_live) 0) ∧ (σ r_Md_laws) ((σ r_Md_live) 0) ≤ 8 := by have q := h.1.2.2.2.2.2.2.2.2.2.1.1; have q2 := h.1.2.2.2.2.2.2.2.2.2.2.1; have q3 := h.2.2.2.2.2.2.2.2.2.1; exact ⟨by omega, by omega⟩
  have mld : ∀ i, 0 ≤ i → i < (σ r_Md_laws) ((σ r_Md_live) 0) → (0 ≤ (σ r_Md_lawLength) (8 * (σ r_Md_live) 0 + i) ∧ (σ r_Md_lawLength) (8 * (σ r_Md_live) 0 + i) ≤ D) ∧ (1 ≤ (σ r_Md_lawLength) (8 * (σ r_Md_live) 0 + i) → 0 < n) := fun i a b => eL_e h.2.2.2.2.2.2.2.2.2.2 i a (by have q := h.2.2.2.2.2.2.2.2.2.1; omega)
  refine ct_mono (ct_X11_growth σ n D p LW (σ r_Md_leads) h.1.1 h.1.2.2.2.2.2.2.2.2.2.2.2.2.2.2.2.1 h.1.2.2.2.2.2.2.2.2.2.1 h.1.2.2.2.2.2.2.2.2.2.2.2.2.2.2.2.2.1 hLd) ?_
  rintro _ _ ⟨f_Nought0_row, f_Nought0_reduced, f_Nought0_leading, f_Nought0_forms, f_Nought0_formStart, f_Nought0_sizes, v_Nought0_reached, f_Machine_reachLow, f_Machine_reachHigh, f_Machine_circles, rr1, rfl, rfl, c1, c2⟩
  refine ct_mono (ct_X12_growth _ n D p h.2.2.1.1 h.2.2.1.2.2.2.2.2.2.2.2.2.2.2.2.2.2.2.2.2.2.2.1.2.2 h.2.2.1.2.2.2.2.2.2.2.2.2.2.2.2.2.2.2.2.1 h.2.2.1.2.2.2.2.2.2.2.2.2.2.2.2.2.2.2.2.2.1) ?_
  rintro _ _ ⟨v_Md_placeLetters, f_Md_isLeft, f_Md_comes, f_Md_circles, rr2, rfl, rfl, d1, d2⟩
  have d1 : ((n = 0 ∧ rr2 = 0) ∨ (¬ n = 0 ∧ ∃ q, isPL ((σ r_Md_leads)) n D q ∧ grR ((σ r_Md_leads)) n D q rr2)) := d1
  have d2 : (R01 f_Md_isLeft ∧ R01 f_Md_comes) := d2
  refine ⟨ans ?_, n, D, p, LW, ⟨⟨h.1.1, h.1.2.1, h.1.2.2.1, h.1.2.2.2.1, h.1.2.2.2.2.1, h.1.2.2.2.2.2.1, h.1.2.2.2.2.2.2.1, h.1.2.2.2.2.2.2.2.1, h.1.2.2.2.2.2.2.2.2.1, h.1.2.2.2.2.2.2.2.2.2.1, h.1.2.2.2.2.2.2.2.2.2.2.1, h.1.2.2.2.2.2.2.2.2.2.2.2.1, h.1.2.2.2.2.2.2.2.2.2.2.2.2.1, h.1.2.2.2.2.2.2.2.2.2.2.2.2.2.1, h.1.2.2.2.2.2.2.2.2.2.2.2.2.2.2.1, c2, h.1.2.2.2.2.2.2.2.2.2.2.2.2.2.2.2.2.1, h.1.2.2.2.2.2.2.2.2.2.2.2.2.2.2.2.2.2.1, h.1.2.2.2.2.2.2.2.2.2.2.2.2.2.2.2.2.2.2⟩, ⟨h.2.1.1, h.2.1.2.1, h.2.1.2.2.1, h.2.1.2.2.2.1, h.2.1.2.2.2.2.1, h.2.1.2.2.2.2.2.1, h.2.1.2.2.2.2.2.2.1, h.2.1.2.2.2.2.2.2.2.1, h.2.1.2.2.2.2.2.2.2.2.1, h.2.1.2.2.2.2.2.2.2.2.2.1, h.2.1.2.2.2.2.2.2.2.2.2.2.1, h.2.1.2.2.2.2.2.2.2.2.2.2.2.1, h.2.1.2.2.2.2.2.2.2.2.2.2.2.2.1, h.2.1.2.2.2.2.2.2.2.2.2.2.2.2.2.1, h.2.1.2.2.2.2.2.2.2.2.2.2.2.2.2.2⟩, ⟨h.2.2.1.1, h.2.2.1.2.1, h.2.2.1.2.2.1, h.2.2.1.2.2.2.1, h.2.2.1.2.2.2.2.1, h.2.2.1.2.2.2.2.2.1, h.2.2.1.2.2.2.2.2.2.1, h.2.2.1.2.2.2.2.2.2.2.1, h.2.2.1.2.2.2.2.2.2.2.2.1, h.2.2.1.2.2.2.2.2.2.2.2.2.1, h.2.2.1.2.2.2.2.2.2.2.2.2.2.1, h.2.2.1.2.2.2.2.2.2.2.2.2.2.2.1, h.2.2.1.2.2.2.2.2.2.2.2.2.2.2.2.1, h.2.2.1.2.2.2.2.2.2.2.2.2.2.2.2.2.1, h.2.2.1.2.2.2.2.2.2.2.2.2.2.2.2.2.2.1, h.2.2.1.2.2.2.2.2.2.2.2.2.2.2.2.2.2.2.1, d2.1, d2.2, h.2.2.1.2.2.2.2.2.2.2.2.2.2.2.2.2.2.2.2.2.2.1, h.2.2.1.2.2.2.2.2.2.2.2.2.2.2.2.2.2.2.2.2.2.2.1, h.2.2.1.2.2.2.2.2.2.2.2.2.2.2.2.2.2.2.2.2.2.2.2⟩, ⟨h.2.2.2.1, h.2.2.2.2.1, h.2.2.2.2.2.1, h.2.2.2.2.2.2.1, h.2.2.2.2.2.2.2.1, h.2.2.2.2.2.2.2.2.1, h.2.2.2.2.2.2.2.2.2.1, h.2.2.2.2.2.2.2.2.2.2⟩⟩⟩
  obtain ⟨q, p1, u1⟩ := c1
  rcases d1 with ⟨n0, w1⟩ | ⟨n0, r, p2, w1⟩
  · subst n0
    rw [w1]
    exact grz_0 p1 u1
  · rw [← isPL_uniq p1 p2] at w1
    exact grR_u u1 w1
theorem eq_chains {σ : en_m} {n D p : Int} {LW : Int → (Int → Int) → Prop} (h : iV σ n D p LW) {y1 : Int} (g1 : i32 y1) {y2 : Int} (g2 : i32 y2) : en_ct z_X11_chains [.inr (.inr (r_WA, 0)), .inl y1, .inl y2] σ (fun r σ1 => en_ct z_X12_chains [.inr (.inr (r_Md, 0)), .inl y1, .inl y2] σ1 (fun r' σ2 => (∃ v : Int, r = some (.inl v) ∧ r' = some (.inl v)) ∧ iX σ2)) := by
  have hO : sOk n D p := h.2.2.1.1.1
  have hp7 := hO.2.2.2.2.1
  have hp2 := hO.2.2.2.1
  have hS9 := sS_b (k := D + 1) hO
  have hLd := mN_L hO h.2.2.1.2.2.2.2.2.2.2.2.2.2.2.2.2.2.2.2.2.2.2.1
  have bE := h.2.2.2.2.2.2.1
  have mtp : 0 ≤ (σ r_Md_taped) 0 ∧ (σ r_Md_taped) 0 ≤ 2000 := by have q := h.1.2.1; have q2 := h.2.2.2.1; exact ⟨by omega, by omega⟩
  have msz : ∀ k, 0 ≤ k → k ≤ D → 0 ≤ (σ r_Md_sizes) k ∧ (σ r_Md_sizes) k ≤ 256 := fun k a b => by rw [mN_szL h.2.2.1.2.2.2.2.2.2.2.2.2.2.2.2.2.2.2.2.2.2.2.1 a b]; exact szL_b _ hO
  have mlm : 0 ≤ (σ r_Md_laws) ((σ r_Md_live) 0) ∧ (σ r_Md_laws) ((σ r_Md_live) 0) ≤ 8 := by have q := h.1.2.2.2.2.2.2.2.2.2.1.1; have q2 := h.1.2.2.2.2.2.2.2.2.2.2.1; have q3 := h.2.2.2.2.2.2.2.2.2.1; exact ⟨by omega, by omega⟩
  have mld : ∀ i, 0 ≤ i → i < (σ r_Md_laws) ((σ r_Md_live) 0) → (0 ≤ (σ r_Md_lawLength) (8 * (σ r_Md_live) 0 + i) ∧ (σ r_Md_lawLength) (8 * (σ r_Md_live) 0 + i) ≤ D) ∧ (1 ≤ (σ r_Md_lawLength) (8 * (σ r_Md_live) 0 + i) → 0 < n) := fun i a b => eL_e h.2.2.2.2.2.2.2.2.2.2 i a (by have q := h.2.2.2.2.2.2.2.2.2.1; omega)
  refine ct_mono (ct_X11_chains σ n D p LW (σ r_Md_leads) y1 y2 h.1.1 g1 g2 h.1.2.2.2.2.2.2.2.2.2.2.2.2.2.2.2.2.2.2 h.1.2.2.2.2.2.2.2.2.2.2.2.2.2.2.2.1 h.1.2.2.2.2.2.2.2.2.2.1 h.1.2.2.2.2.2.2.2.2.2.2.2.2.2.2.2.2.1 hLd) ?_
  rintro _ _ ⟨f_Nought0_row, f_Nought0_reduced, f_Nought0_leading, f_Nought0_forms, f_Nought0_formStart, f_Nought0_sizes, v_Nought0_reached, f_Machine_chainsNowA, v_Machine_chainsNow, v_Machine_chainsNext, rr1, rfl, rfl, c1, c2, c3⟩
  refine ct_mono (ct_X12_chains _ n D p y1 y2 h.2.2.1.1 g1 g2 (ldOk_mo hO hLd) h.2.2.1.2.2.2.2.2.2.2.2.2.2.2.2.2.2.2.2.2.2.2.1.2.2) ?_
  rintro _ _ ⟨f_Md_chain, f_Md_chainThen, rr2, rfl, rfl, d1⟩
  have d1 : ((¬ ((0 ≤ y1 ∧ y1 ≤ 4) ∧ 0 ≤ y2 ∧ y2 ≤ D) ∧ rr2 = -1) ∨ (((0 ≤ y1 ∧ y1 ≤ 4) ∧ 0 ≤ y2 ∧ y2 ≤ D) ∧ rr2 = sm (fun i => chS ((σ r_Md_leads)) n D (y1).toNat y2 i) (sS n D (D + 1)).toNat)) := d1
  refine ⟨ans ?_, n, D, p, LW, ⟨⟨h.1.1, h.1.2.1, h.1.2.2.1, h.1.2.2.2.1, h.1.2.2.2.2.1, h.1.2.2.2.2.2.1, h.1.2.2.2.2.2.2.1, h.1.2.2.2.2.2.2.2.1, h.1.2.2.2.2.2.2.2.2.1, h.1.2.2.2.2.2.2.2.2.2.1, h.1.2.2.2.2.2.2.2.2.2.2.1, h.1.2.2.2.2.2.2.2.2.2.2.2.1, h.1.2.2.2.2.2.2.2.2.2.2.2.2.1, h.1.2.2.2.2.2.2.2.2.2.2.2.2.2.1, h.1.2.2.2.2.2.2.2.2.2.2.2.2.2.2.1, c2, h.1.2.2.2.2.2.2.2.2.2.2.2.2.2.2.2.2.1, h.1.2.2.2.2.2.2.2.2.2.2.2.2.2.2.2.2.2.1, c3⟩, ⟨h.2.1.1, h.2.1.2.1, h.2.1.2.2.1, h.2.1.2.2.2.1, h.2.1.2.2.2.2.1, h.2.1.2.2.2.2.2.1, h.2.1.2.2.2.2.2.2.1, h.2.1.2.2.2.2.2.2.2.1, h.2.1.2.2.2.2.2.2.2.2.1, h.2.1.2.2.2.2.2.2.2.2.2.1, h.2.1.2.2.2.2.2.2.2.2.2.2.1, h.2.1.2.2.2.2.2.2.2.2.2.2.2.1, h.2.1.2.2.2.2.2.2.2.2.2.2.2.2.1, h.2.1.2.2.2.2.2.2.2.2.2.2.2.2.2.1, h.2.1.2.2.2.2.2.2.2.2.2.2.2.2.2.2⟩, ⟨h.2.2.1.1, h.2.2.1.2.1, h.2.2.1.2.2.1, h.2.2.1.2.2.2.1, h.2.2.1.2.2.2.2.1, h.2.2.1.2.2.2.2.2.1, h.2.2.1.2.2.2.2.2.2.1, h.2.2.1.2.2.2.2.2.2.2.1, h.2.2.1.2.2.2.2.2.2.2.2.1, h.2.2.1.2.2.2.2.2.2.2.2.2.1, h.2.2.1.2.2.2.2.2.2.2.2.2.2.1, h.2.2.1.2.2.2.2.2.2.2.2.2.2.2.1, h.2.2.1.2.2.2.2.2.2.2.2.2.2.2.2.1, h.2.2.1.2.2.2.2.2.2.2.2.2.2.2.2.2.1, h.2.2.1.2.2.2.2.2.2.2.2.2.2.2.2.2.2.1, h.2.2.1.2.2.2.2.2.2.2.2.2.2.2.2.2.2.2.1, h.2.2.1.2.2.2.2.2.2.2.2.2.2.2.2.2.2.2.2.1, h.2.2.1.2.2.2.2.2.2.2.2.2.2.2.2.2.2.2.2.2.1, h.2.2.1.2.2.2.2.2.2.2.2.2.2.2.2.2.2.2.2.2.2.1, h.2.2.1.2.2.2.2.2.2.2.2.2.2.2.2.2.2.2.2.2.2.2.1, h.2.2.1.2.2.2.2.2.2.2.2.2.2.2.2.2.2.2.2.2.2.2.2⟩, ⟨h.2.2.2.1, h.2.2.2.2.1, h.2.2.2.2.2.1, h.2.2.2.2.2.2.1, h.2.2.2.2.2.2.2.1, h.2.2.2.2.2.2.2.2.1, h.2.2.2.2.2.2.2.2.2.1, h.2.2.2.2.2.2.2.2.2.2⟩⟩⟩
  rcases c1 with ⟨t1, u1⟩ | ⟨t1, u1⟩ <;> rcases d1 with ⟨t2, w1⟩ | ⟨t2, w1⟩
  · rw [u1, w1]
  · exact absurd t2 t1
  · exact absurd t1 t2
  · rw [u1, w1]
theorem eq_dual {σ : en_m} {n D p : Int} {LW : Int → (Int → Int) → Prop} (h : iV σ n D p LW) {y1 : Int} (g1 : i32 y1) : en_ct z_X11_dual [.inr (.inr (r_WA, 0)), .inl y1] σ (fun r σ1 => en_ct z_X12_dual [.inr (.inr (r_Md, 0)), .inl y1] σ1 (fun r' σ2 => (∃ v : Int, r = some (.inl v) ∧ r' = some (.inl v)) ∧ iX σ2)) := by
  have hO : sOk n D p := h.2.2.1.1.1
  have hp7 := hO.2.2.2.2.1
  have hp2 := hO.2.2.2.1
  have hS9 := sS_b (k := D + 1) hO
  have hLd := mN_L hO h.2.2.1.2.2.2.2.2.2.2.2.2.2.2.2.2.2.2.2.2.2.2.1
  have bE := h.2.2.2.2.2.2.1
  have mtp : 0 ≤ (σ r_Md_taped) 0 ∧ (σ r_Md_taped) 0 ≤ 2000 := by have q := h.1.2.1; have q2 := h.2.2.2.1; exact ⟨by omega, by omega⟩
  have msz : ∀ k, 0 ≤ k → k ≤ D → 0 ≤ (σ r_Md_sizes) k ∧ (σ r_Md_sizes) k ≤ 256 := fun k a b => by rw [mN_szL h.2.2.1.2.2.2.2.2.2.2.2.2.2.2.2.2.2.2.2.2.2.2.1 a b]; exact szL_b _ hO
  have mlm : 0 ≤ (σ r_Md_laws) ((σ r_Md_live) 0) ∧ (σ r_Md_laws) ((σ r_Md_live) 0) ≤ 8 := by have q := h.1.2.2.2.2.2.2.2.2.2.1.1; have q2 := h.1.2.2.2.2.2.2.2.2.2.2.1; have q3 := h.2.2.2.2.2.2.2.2.2.1; exact ⟨by omega, by omega⟩
  have mld : ∀ i, 0 ≤ i → i < (σ r_Md_laws) ((σ r_Md_live) 0) → (0 ≤ (σ r_Md_lawLength) (8 * (σ r_Md_live) 0 + i) ∧ (σ r_Md_lawLength) (8 * (σ r_Md_live) 0 + i) ≤ D) ∧ (1 ≤ (σ r_Md_lawLength) (8 * (σ r_Md_live) 0 + i) → 0 < n) := fun i a b => eL_e h.2.2.2.2.2.2.2.2.2.2 i a (by have q := h.2.2.2.2.2.2.2.2.2.1; omega)
  obtain ⟨L1, hLd1, hz1⟩ := eQ_L hO h.2.2.1.2.2.2.2.2.2.2.2.2.2.2.2.2.2.2.2.2.2.2.1.2.2 h.2.2.1.2.2.2.2.2.2.2.2.2.2.2.2.2.2.2.2.2.2.2.2
  have hq1 := eQ_q h.2.2.1.2.2.2.2.2.2.2.2.2.2.2.2.2.2.2.2.2.2.2.2
  have hq2 := eL_q h.2.2.2.2.2.2.2.2.2.2
  have hmm := h.2.2.2.2.2.2.2.2.2.1
  have hq3 : ¬ (σ r_Md_quadratic) 0 = 0 ↔ ∀ k : Int, 0 ≤ k → k < (σ r_Nought0_lawsNow) 0 → (σ r_Nought0_lengths) k = 0 ∨ (σ r_Nought0_lengths) k = 2 := by
    rw [hq1, ← hmm]
    exact hq2.symm
  refine ct_mono (ct_X11_dual σ n D p LW L1 y1 h.1.1 g1 h.1.2.2.2.2.2.2.2.2.2.2.2.2.2.2.2.1 h.1.2.2.2.2.2.2.2.2.2.1 h.1.2.2.2.2.2.2.2.2.2.2.2.2.2.2.2.2.1 h.2.1.1 h.2.1.2.1 h.2.1.2.2.1 h.1.2.2.2.2.2.2.2.2.2.2.1 hLd1) ?_
  rintro _ _ ⟨f_Nought0_row, f_Nought0_reduced, f_Nought0_leading, f_Nought0_forms, f_Nought0_formStart, f_Nought0_sizes, v_Nought0_reached, f_Mirror_law, f_Nought1_lawsR, f_Nought1_lengths, v_Nought1_lawsNow, v_Mirror_known, f_Nought1_row, f_Nought1_reduced, f_Nought1_leading, f_Nought1_forms, f_Nought1_formStart, f_Nought1_sizes, v_Nought1_reached, rr1, rfl, rfl, c1, c2, c3, c4, c5⟩
  refine fn_mono (ct_X12_dual _ n D p y1 h.2.2.1.1 g1 (eQ_i h.2.2.1.2.2.2.2.2.2.2.2.2.2.2.2.2.2.2.2.2.2.2.2)) ?_
  refine ⟨ans ?_, n, D, p, LW, ⟨⟨h.1.1, h.1.2.1, h.1.2.2.1, h.1.2.2.2.1, h.1.2.2.2.2.1, h.1.2.2.2.2.2.1, h.1.2.2.2.2.2.2.1, h.1.2.2.2.2.2.2.2.1, h.1.2.2.2.2.2.2.2.2.1, h.1.2.2.2.2.2.2.2.2.2.1, h.1.2.2.2.2.2.2.2.2.2.2.1, h.1.2.2.2.2.2.2.2.2.2.2.2.1, h.1.2.2.2.2.2.2.2.2.2.2.2.2.1, h.1.2.2.2.2.2.2.2.2.2.2.2.2.2.1, h.1.2.2.2.2.2.2.2.2.2.2.2.2.2.2.1, c2, h.1.2.2.2.2.2.2.2.2.2.2.2.2.2.2.2.2.1, h.1.2.2.2.2.2.2.2.2.2.2.2.2.2.2.2.2.2.1, h.1.2.2.2.2.2.2.2.2.2.2.2.2.2.2.2.2.2.2⟩, ⟨c3, c4, c5, h.2.1.2.2.2.1, h.2.1.2.2.2.2.1, h.2.1.2.2.2.2.2.1, h.2.1.2.2.2.2.2.2.1, h.2.1.2.2.2.2.2.2.2.1, h.2.1.2.2.2.2.2.2.2.2.1, h.2.1.2.2.2.2.2.2.2.2.2.1, h.2.1.2.2.2.2.2.2.2.2.2.2.1, h.2.1.2.2.2.2.2.2.2.2.2.2.2.1, h.2.1.2.2.2.2.2.2.2.2.2.2.2.2.1, h.2.1.2.2.2.2.2.2.2.2.2.2.2.2.2.1, h.2.1.2.2.2.2.2.2.2.2.2.2.2.2.2.2⟩, ⟨h.2.2.1.1, h.2.2.1.2.1, h.2.2.1.2.2.1, h.2.2.1.2.2.2.1, h.2.2.1.2.2.2.2.1, h.2.2.1.2.2.2.2.2.1, h.2.2.1.2.2.2.2.2.2.1, h.2.2.1.2.2.2.2.2.2.2.1, h.2.2.1.2.2.2.2.2.2.2.2.1, h.2.2.1.2.2.2.2.2.2.2.2.2.1, h.2.2.1.2.2.2.2.2.2.2.2.2.2.1, h.2.2.1.2.2.2.2.2.2.2.2.2.2.2.1, h.2.2.1.2.2.2.2.2.2.2.2.2.2.2.2.1, h.2.2.1.2.2.2.2.2.2.2.2.2.2.2.2.2.1, h.2.2.1.2.2.2.2.2.2.2.2.2.2.2.2.2.2.1, h.2.2.1.2.2.2.2.2.2.2.2.2.2.2.2.2.2.2.1, h.2.2.1.2.2.2.2.2.2.2.2.2.2.2.2.2.2.2.2.1, h.2.2.1.2.2.2.2.2.2.2.2.2.2.2.2.2.2.2.2.2.1, h.2.2.1.2.2.2.2.2.2.2.2.2.2.2.2.2.2.2.2.2.2.1, h.2.2.1.2.2.2.2.2.2.2.2.2.2.2.2.2.2.2.2.2.2.2.1, h.2.2.1.2.2.2.2.2.2.2.2.2.2.2.2.2.2.2.2.2.2.2.2⟩, ⟨h.2.2.2.1, h.2.2.2.2.1, h.2.2.2.2.2.1, h.2.2.2.2.2.2.1, h.2.2.2.2.2.2.2.1, h.2.2.2.2.2.2.2.2.1, h.2.2.2.2.2.2.2.2.2.1, h.2.2.2.2.2.2.2.2.2.2⟩⟩⟩
  show rr1 = (if 0 ≤ y1 ∧ y1 ≤ D then (if (σ r_Md_quadratic) 0 = 0 then -2 else (σ r_Md_sizes) (9 + y1)) else -1)
  rcases c1 with ⟨t1, u1⟩ | ⟨t1, ⟨u2, u1⟩ | ⟨u2, u1⟩⟩
  · rw [u1, if_neg t1]
  · rw [u1, if_pos t1, if_pos (Decidable.byContradiction fun q => u2 (hq3.mp q))]
  · rw [u1, if_pos t1, if_neg (hq3.mpr u2)]
    exact (hz1 _ t1.1 t1.2 (hq3.mpr u2)).symm
theorem eq_bent {σ : en_m} {n D p : Int} {LW : Int → (Int → Int) → Prop} (h : iV σ n D p LW) : en_ct z_X11_bent [.inr (.inr (r_WA, 0))] σ (fun r σ1 => en_ct z_X12_bent [.inr (.inr (r_Md, 0))] σ1 (fun r' σ2 => (∃ v : Int, r = some (.inl v) ∧ r' = some (.inl v)) ∧ iX σ2)) := by
  have hO : sOk n D p := h.2.2.1.1.1
  have hp7 := hO.2.2.2.2.1
  have hp2 := hO.2.2.2.1
  have hS9 := sS_b (k := D + 1) hO
  have hLd := mN_L hO h.2.2.1.2.2.2.2.2.2.2.2.2.2.2.2.2.2.2.2.2.2.2.1
  have bE := h.2.2.2.2.2.2.1
  have mtp : 0 ≤ (σ r_Md_taped) 0 ∧ (σ r_Md_taped) 0 ≤ 2000 := by have q := h.1.2.1; have q2 := h.2.2.2.1; exact ⟨by omega, by omega⟩
  have msz : ∀ k, 0 ≤ k → k ≤ D → 0 ≤ (σ r_Md_sizes) k ∧ (σ r_Md_sizes) k ≤ 256 := fun k a b => by rw [mN_szL h.2.2.1.2.2.2.2.2.2.2.2.2.2.2.2.2.2.2.2.2.2.2.1 a b]; exact szL_b _ hO
  have mlm : 0 ≤ (σ r_Md_laws) ((σ r_Md_live) 0) ∧ (σ r_Md_laws) ((σ r_Md_live) 0) ≤ 8 := by have q := h.1.2.2.2.2.2.2.2.2.2.1.1; have q2 := h.1.2.2.2.2.2.2.2.2.2.2.1; have q3 := h.2.2.2.2.2.2.2.2.2.1; exact ⟨by omega, by omega⟩
  have mld : ∀ i, 0 ≤ i → i < (σ r_Md_laws) ((σ r_Md_live) 0) → (0 ≤ (σ r_Md_lawLength) (8 * (σ r_Md_live) 0 + i) ∧ (σ r_Md_lawLength) (8 * (σ r_Md_live) 0 + i) ≤ D) ∧ (1 ≤ (σ r_Md_lawLength) (8 * (σ r_Md_live) 0 + i) → 0 < n) := fun i a b => eL_e h.2.2.2.2.2.2.2.2.2.2 i a (by have q := h.2.2.2.2.2.2.2.2.2.1; omega)
  obtain ⟨L1, hLd1, hz1⟩ := eQ_L hO h.2.2.1.2.2.2.2.2.2.2.2.2.2.2.2.2.2.2.2.2.2.2.1.2.2 h.2.2.1.2.2.2.2.2.2.2.2.2.2.2.2.2.2.2.2.2.2.2.2
  have hq1 := eQ_q h.2.2.1.2.2.2.2.2.2.2.2.2.2.2.2.2.2.2.2.2.2.2.2
  have hq2 := eL_q h.2.2.2.2.2.2.2.2.2.2
  have hmm := h.2.2.2.2.2.2.2.2.2.1
  have hq3 : ¬ (σ r_Md_quadratic) 0 = 0 ↔ ∀ k : Int, 0 ≤ k → k < (σ r_Nought0_lawsNow) 0 → (σ r_Nought0_lengths) k = 0 ∨ (σ r_Nought0_lengths) k = 2 := by
    rw [hq1, ← hmm]
    exact hq2.symm
  refine ct_mono (ct_X11_bent σ n D p LW (σ r_Md_leads) L1 h.1.1 h.1.2.2.2.2.2.2.2.2.2.2.2.2.2.2.2.1 h.1.2.2.2.2.2.2.2.2.2.1 h.1.2.2.2.2.2.2.2.2.2.2.2.2.2.2.2.2.1 h.2.1.1 h.2.1.2.1 h.2.1.2.2.1 h.1.2.2.2.2.2.2.2.2.2.2.1 hLd hLd1) ?_
  rintro _ _ ⟨f_Nought0_row, f_Nought0_reduced, f_Nought0_leading, f_Nought0_forms, f_Nought0_formStart, f_Nought0_sizes, v_Nought0_reached, f_Mirror_law, f_Nought1_lawsR, f_Nought1_lengths, v_Nought1_lawsNow, v_Mirror_known, f_Nought1_row, f_Nought1_reduced, f_Nought1_leading, f_Nought1_forms, f_Nought1_formStart, f_Nought1_sizes, v_Nought1_reached, rr1, rfl, rfl, c1, c2, c3, c4, c5⟩
  refine ct_mono (ct_X12_bent _ n D p h.2.2.1.1 msz (eQ_b hO h.2.2.1.2.2.2.2.2.2.2.2.2.2.2.2.2.2.2.2.2.2.2.1.2.2 h.2.2.1.2.2.2.2.2.2.2.2.2.2.2.2.2.2.2.2.2.2.2.2) (eQ_i h.2.2.1.2.2.2.2.2.2.2.2.2.2.2.2.2.2.2.2.2.2.2.2)) ?_
  rintro _ _ ⟨rr2, rfl, rfl, d1⟩
  have d1 : (((σ r_Md_quadratic) 0 = 0 ∧ rr2 = -3) ∨ (¬ (σ r_Md_quadratic) 0 = 0 ∧ ((rr2 = -2 ∧ ∀ d, 1 ≤ d → d ≤ D → bT ((σ r_Md_sizes)) (fun j => (σ r_Md_sizes) (9 + j)) d = 0) ∨ ((1 ≤ rr2 ∧ rr2 ≤ D) ∧ ¬ bT ((σ r_Md_sizes)) (fun j => (σ r_Md_sizes) (9 + j)) rr2 = 0 ∧ ∀ d, 1 ≤ d → d < rr2 → bT ((σ r_Md_sizes)) (fun j => (σ r_Md_sizes) (9 + j)) d = 0)))) := d1
  have hz : ∀ k, 0 ≤ k → k ≤ D → szL (σ r_Md_leads) n D k = (σ r_Md_sizes) k := fun k a b => (mN_szL h.2.2.1.2.2.2.2.2.2.2.2.2.2.2.2.2.2.2.2.2.2.2.1 a b).symm
  refine ⟨ans ?_, n, D, p, LW, ⟨⟨h.1.1, h.1.2.1, h.1.2.2.1, h.1.2.2.2.1, h.1.2.2.2.2.1, h.1.2.2.2.2.2.1, h.1.2.2.2.2.2.2.1, h.1.2.2.2.2.2.2.2.1, h.1.2.2.2.2.2.2.2.2.1, h.1.2.2.2.2.2.2.2.2.2.1, h.1.2.2.2.2.2.2.2.2.2.2.1, h.1.2.2.2.2.2.2.2.2.2.2.2.1, h.1.2.2.2.2.2.2.2.2.2.2.2.2.1, h.1.2.2.2.2.2.2.2.2.2.2.2.2.2.1, h.1.2.2.2.2.2.2.2.2.2.2.2.2.2.2.1, c2, h.1.2.2.2.2.2.2.2.2.2.2.2.2.2.2.2.2.1, h.1.2.2.2.2.2.2.2.2.2.2.2.2.2.2.2.2.2.1, h.1.2.2.2.2.2.2.2.2.2.2.2.2.2.2.2.2.2.2⟩, ⟨c3, c4, c5, h.2.1.2.2.2.1, h.2.1.2.2.2.2.1, h.2.1.2.2.2.2.2.1, h.2.1.2.2.2.2.2.2.1, h.2.1.2.2.2.2.2.2.2.1, h.2.1.2.2.2.2.2.2.2.2.1, h.2.1.2.2.2.2.2.2.2.2.2.1, h.2.1.2.2.2.2.2.2.2.2.2.2.1, h.2.1.2.2.2.2.2.2.2.2.2.2.2.1, h.2.1.2.2.2.2.2.2.2.2.2.2.2.2.1, h.2.1.2.2.2.2.2.2.2.2.2.2.2.2.2.1, h.2.1.2.2.2.2.2.2.2.2.2.2.2.2.2.2⟩, ⟨h.2.2.1.1, h.2.2.1.2.1, h.2.2.1.2.2.1, h.2.2.1.2.2.2.1, h.2.2.1.2.2.2.2.1, h.2.2.1.2.2.2.2.2.1, h.2.2.1.2.2.2.2.2.2.1, h.2.2.1.2.2.2.2.2.2.2.1, h.2.2.1.2.2.2.2.2.2.2.2.1, h.2.2.1.2.2.2.2.2.2.2.2.2.1, h.2.2.1.2.2.2.2.2.2.2.2.2.2.1, h.2.2.1.2.2.2.2.2.2.2.2.2.2.2.1, h.2.2.1.2.2.2.2.2.2.2.2.2.2.2.2.1, h.2.2.1.2.2.2.2.2.2.2.2.2.2.2.2.2.1, h.2.2.1.2.2.2.2.2.2.2.2.2.2.2.2.2.2.1, h.2.2.1.2.2.2.2.2.2.2.2.2.2.2.2.2.2.2.1, h.2.2.1.2.2.2.2.2.2.2.2.2.2.2.2.2.2.2.2.1, h.2.2.1.2.2.2.2.2.2.2.2.2.2.2.2.2.2.2.2.2.1, h.2.2.1.2.2.2.2.2.2.2.2.2.2.2.2.2.2.2.2.2.2.1, h.2.2.1.2.2.2.2.2.2.2.2.2.2.2.2.2.2.2.2.2.2.2.1, h.2.2.1.2.2.2.2.2.2.2.2.2.2.2.2.2.2.2.2.2.2.2.2⟩, ⟨h.2.2.2.1, h.2.2.2.2.1, h.2.2.2.2.2.1, h.2.2.2.2.2.2.1, h.2.2.2.2.2.2.2.1, h.2.2.2.2.2.2.2.2.1, h.2.2.2.2.2.2.2.2.2.1, h.2.2.2.2.2.2.2.2.2.2⟩⟩⟩
  rcases c1 with ⟨u2, u1⟩ | ⟨u2, u1⟩ <;> rcases d1 with ⟨w2, w1⟩ | ⟨w2, w1⟩
  · rw [u1, w1]
  · exact absurd (hq3.mp w2) u2
  · exact absurd w2 (hq3.mpr u2)
  · exact btA_u u1 w1 (fun d a b => bT_c hz (fun k x y => (hz1 k x y w2).symm) (by omega) b)
theorem eq_inverse {σ : en_m} {n D p : Int} {LW : Int → (Int → Int) → Prop} (h : iV σ n D p LW) {y1 : Int} (g1 : i32 y1) : en_ct z_X11_inverse [.inr (.inr (r_WA, 0)), .inl y1] σ (fun r σ1 => en_ct z_X12_inverse [.inr (.inr (r_Md, 0)), .inl y1] σ1 (fun r' σ2 => (∃ v : Int, r = some (.inr (.inl v)) ∧ r' = some (.inr (.inl v))) ∧ iX σ2)) := by
  have hO : sOk n D p := h.2.2.1.1.1
  have hp7 := hO.2.2.2.2.1
  have hp2 := hO.2.2.2.1
  have hS9 := sS_b (k := D + 1) hO
  have hLd := mN_L hO h.2.2.1.2.2.2.2.2.2.2.2.2.2.2.2.2.2.2.2.2.2.2.1
  have bE := h.2.2.2.2.2.2.1
  have mtp : 0 ≤ (σ r_Md_taped) 0 ∧ (σ r_Md_taped) 0 ≤ 2000 := by have q := h.1.2.1; have q2 := h.2.2.2.1; exact ⟨by omega, by omega⟩
  have msz : ∀ k, 0 ≤ k → k ≤ D → 0 ≤ (σ r_Md_sizes) k ∧ (σ r_Md_sizes) k ≤ 256 := fun k a b => by rw [mN_szL h.2.2.1.2.2.2.2.2.2.2.2.2.2.2.2.2.2.2.2.2.2.2.1 a b]; exact szL_b _ hO
  have mlm : 0 ≤ (σ r_Md_laws) ((σ r_Md_live) 0) ∧ (σ r_Md_laws) ((σ r_Md_live) 0) ≤ 8 := by have q := h.1.2.2.2.2.2.2.2.2.2.1.1; have q2 := h.1.2.2.2.2.2.2.2.2.2.2.1; have q3 := h.2.2.2.2.2.2.2.2.2.1; exact ⟨by omega, by omega⟩
  have mld : ∀ i, 0 ≤ i → i < (σ r_Md_laws) ((σ r_Md_live) 0) → (0 ≤ (σ r_Md_lawLength) (8 * (σ r_Md_live) 0 + i) ∧ (σ r_Md_lawLength) (8 * (σ r_Md_live) 0 + i) ≤ D) ∧ (1 ≤ (σ r_Md_lawLength) (8 * (σ r_Md_live) 0 + i) → 0 < n) := fun i a b => eL_e h.2.2.2.2.2.2.2.2.2.2 i a (by have q := h.2.2.2.2.2.2.2.2.2.1; omega)
  refine ct_mono (ct_X11_inverse σ n D p LW (σ r_Md_leads) y1 h.1.1 g1 h.1.2.2.2.2.2.2.2.2.2.2.2.2.2.2.2.1 h.1.2.2.2.2.2.2.2.2.2.1 h.1.2.2.2.2.2.2.2.2.2.2.2.2.2.2.2.2.1 hLd) ?_
  rintro _ _ ⟨f_Nought0_row, f_Nought0_reduced, f_Nought0_leading, f_Nought0_forms, f_Nought0_formStart, f_Nought0_sizes, v_Nought0_reached, f_Nought0_series, rr1, rfl, rfl, c1, c2⟩
  refine ct_mono (ct_X12_inverse _ n D p y1 h.2.2.1.1 g1 msz) ?_
  rintro _ _ ⟨f_Md_series, rr2, rfl, rfl, d1⟩
  have d1 : (((0 ≤ y1 ∧ y1 ≤ D) ∧ ∃ s, sers ((σ r_Md_sizes)) s y1 ∧ rr2 = s y1) ∨ (¬ (0 ≤ y1 ∧ y1 ≤ D) ∧ rr2 = -9223372036854775807)) := d1
  have hz : ∀ k, 0 ≤ k → k ≤ D → szL (σ r_Md_leads) n D k = (σ r_Md_sizes) k := fun k a b => (mN_szL h.2.2.1.2.2.2.2.2.2.2.2.2.2.2.2.2.2.2.2.2.2.2.1 a b).symm
  refine ⟨ansl ?_, n, D, p, LW, ⟨⟨h.1.1, h.1.2.1, h.1.2.2.1, h.1.2.2.2.1, h.1.2.2.2.2.1, h.1.2.2.2.2.2.1, h.1.2.2.2.2.2.2.1, h.1.2.2.2.2.2.2.2.1, h.1.2.2.2.2.2.2.2.2.1, h.1.2.2.2.2.2.2.2.2.2.1, h.1.2.2.2.2.2.2.2.2.2.2.1, h.1.2.2.2.2.2.2.2.2.2.2.2.1, h.1.2.2.2.2.2.2.2.2.2.2.2.2.1, h.1.2.2.2.2.2.2.2.2.2.2.2.2.2.1, h.1.2.2.2.2.2.2.2.2.2.2.2.2.2.2.1, c2, h.1.2.2.2.2.2.2.2.2.2.2.2.2.2.2.2.2.1, h.1.2.2.2.2.2.2.2.2.2.2.2.2.2.2.2.2.2.1, h.1.2.2.2.2.2.2.2.2.2.2.2.2.2.2.2.2.2.2⟩, ⟨h.2.1.1, h.2.1.2.1, h.2.1.2.2.1, h.2.1.2.2.2.1, h.2.1.2.2.2.2.1, h.2.1.2.2.2.2.2.1, h.2.1.2.2.2.2.2.2.1, h.2.1.2.2.2.2.2.2.2.1, h.2.1.2.2.2.2.2.2.2.2.1, h.2.1.2.2.2.2.2.2.2.2.2.1, h.2.1.2.2.2.2.2.2.2.2.2.2.1, h.2.1.2.2.2.2.2.2.2.2.2.2.2.1, h.2.1.2.2.2.2.2.2.2.2.2.2.2.2.1, h.2.1.2.2.2.2.2.2.2.2.2.2.2.2.2.1, h.2.1.2.2.2.2.2.2.2.2.2.2.2.2.2.2⟩, ⟨h.2.2.1.1, h.2.2.1.2.1, h.2.2.1.2.2.1, h.2.2.1.2.2.2.1, h.2.2.1.2.2.2.2.1, h.2.2.1.2.2.2.2.2.1, h.2.2.1.2.2.2.2.2.2.1, h.2.2.1.2.2.2.2.2.2.2.1, h.2.2.1.2.2.2.2.2.2.2.2.1, h.2.2.1.2.2.2.2.2.2.2.2.2.1, h.2.2.1.2.2.2.2.2.2.2.2.2.2.1, h.2.2.1.2.2.2.2.2.2.2.2.2.2.2.1, h.2.2.1.2.2.2.2.2.2.2.2.2.2.2.2.1, h.2.2.1.2.2.2.2.2.2.2.2.2.2.2.2.2.1, h.2.2.1.2.2.2.2.2.2.2.2.2.2.2.2.2.2.1, h.2.2.1.2.2.2.2.2.2.2.2.2.2.2.2.2.2.2.1, h.2.2.1.2.2.2.2.2.2.2.2.2.2.2.2.2.2.2.2.1, h.2.2.1.2.2.2.2.2.2.2.2.2.2.2.2.2.2.2.2.2.1, h.2.2.1.2.2.2.2.2.2.2.2.2.2.2.2.2.2.2.2.2.2.1, h.2.2.1.2.2.2.2.2.2.2.2.2.2.2.2.2.2.2.2.2.2.2.1, h.2.2.1.2.2.2.2.2.2.2.2.2.2.2.2.2.2.2.2.2.2.2.2⟩, ⟨h.2.2.2.1, h.2.2.2.2.1, h.2.2.2.2.2.1, h.2.2.2.2.2.2.1, h.2.2.2.2.2.2.2.1, h.2.2.2.2.2.2.2.2.1, h.2.2.2.2.2.2.2.2.2.1, h.2.2.2.2.2.2.2.2.2.2⟩⟩⟩
  rcases c1 with ⟨t1, s, u1, u2⟩ | ⟨t1, u1⟩ <;> rcases d1 with ⟨t2, t, w1, w2⟩ | ⟨t2, w1⟩
  · rw [u2, w2]
    exact sers_uniq (fun k a b => hz k a (by omega)) u1 w1 _ _ t1.1 (Int.le_refl _) (show y1 ≤ ((y1.toNat : Nat) : Int) by omega)
  · exact absurd t1 t2
  · exact absurd t2 t1
  · rw [u1, w1]
theorem eq_centre {σ : en_m} {n D p : Int} {LW : Int → (Int → Int) → Prop} (h : iV σ n D p LW) {y1 : Int} (g1 : i32 y1) : en_ct z_X11_centre [.inr (.inr (r_WA, 0)), .inl y1] σ (fun r σ1 => en_ct z_X12_centre [.inr (.inr (r_Md, 0)), .inl y1] σ1 (fun r' σ2 => (∃ v : Int, r = some (.inl v) ∧ r' = some (.inl v)) ∧ iX σ2)) := by
  have hO : sOk n D p := h.2.2.1.1.1
  have hp7 := hO.2.2.2.2.1
  have hp2 := hO.2.2.2.1
  have hS9 := sS_b (k := D + 1) hO
  have hLd := mN_L hO h.2.2.1.2.2.2.2.2.2.2.2.2.2.2.2.2.2.2.2.2.2.2.1
  have bE := h.2.2.2.2.2.2.1
  have mtp : 0 ≤ (σ r_Md_taped) 0 ∧ (σ r_Md_taped) 0 ≤ 2000 := by have q := h.1.2.1; have q2 := h.2.2.2.1; exact ⟨by omega, by omega⟩
  have msz : ∀ k, 0 ≤ k → k ≤ D → 0 ≤ (σ r_Md_sizes) k ∧ (σ r_Md_sizes) k ≤ 256 := fun k a b => by rw [mN_szL h.2.2.1.2.2.2.2.2.2.2.2.2.2.2.2.2.2.2.2.2.2.2.1 a b]; exact szL_b _ hO
  have mlm : 0 ≤ (σ r_Md_laws) ((σ r_Md_live) 0) ∧ (σ r_Md_laws) ((σ r_Md_live) 0) ≤ 8 := by have q := h.1.2.2.2.2.2.2.2.2.2.1.1; have q2 := h.1.2.2.2.2.2.2.2.2.2.2.1; have q3 := h.2.2.2.2.2.2.2.2.2.1; exact ⟨by omega, by omega⟩
  have mld : ∀ i, 0 ≤ i → i < (σ r_Md_laws) ((σ r_Md_live) 0) → (0 ≤ (σ r_Md_lawLength) (8 * (σ r_Md_live) 0 + i) ∧ (σ r_Md_lawLength) (8 * (σ r_Md_live) 0 + i) ≤ D) ∧ (1 ≤ (σ r_Md_lawLength) (8 * (σ r_Md_live) 0 + i) → 0 < n) := fun i a b => eL_e h.2.2.2.2.2.2.2.2.2.2 i a (by have q := h.2.2.2.2.2.2.2.2.2.1; omega)
  refine ct_mono (ct_X11_centre σ n D p LW (σ r_Md_leads) y1 h.1.1 g1 h.2.1.2.2.2.1 h.2.1.2.2.2.2.1 h.2.1.2.2.2.2.2.1 h.1.2.2.2.2.2.2.2.2.2.2.2.2.2.2.2.1 h.1.2.2.2.2.2.2.2.2.2.1 h.1.2.2.2.2.2.2.2.2.2.2.2.2.2.2.2.2.1 hLd) ?_
  rintro _ _ ⟨f_Nought0_row, f_Nought0_reduced, f_Nought0_leading, f_Nought0_forms, f_Nought0_formStart, f_Nought0_sizes, v_Nought0_reached, v_Ranks_wide, v_Ranks_rank, f_Ranks_unknowns, f_Ranks_isKept, f_Ranks_equation, f_Ranks_keptR, rr1, rfl, rfl, c1, c2, c3⟩
  refine ct_mono (ct_X12_centre _ n D p LW y1 h.2.2.1.1 g1 h.2.2.1.2.2.2.2.2.2.1 h.2.2.1.2.2.2.2.2.2.2.2.2.2.2.2.1 h.2.2.1.2.2.2.2.2.1 h.2.2.1.2.2.2.2.2.2.2.2.2.2.2.2.2.2.2.2.2.2.2.1) ?_
  rintro _ _ ⟨f_Md_matrix, v_Md_matrixRows, v_Md_matrixWide, f_Md_row, f_Md_kept, rr2, rfl, rfl, d1, d2⟩
  have d1 : ((¬ (0 ≤ y1 ∧ y1 + 1 ≤ D) ∧ rr2 = -1) ∨ ((0 ≤ y1 ∧ y1 + 1 ≤ D) ∧ ∃ A9 R9, ceR n D p LW y1 (fun i => nth (fun v => bI ((σ r_Md_leads) (sS n D y1 + v) = 0)) i (sW n D y1).toNat) A9 (szL ((σ r_Md_leads)) n D y1) ∧ rkM p A9 (szL ((σ r_Md_leads)) n D y1) (n * sW n D (y1 + 1)) R9 ∧ rr2 = (szL ((σ r_Md_leads)) n D y1) - R9)) := d1
  have d2 : (R97 f_Md_row ∧ R97 f_Md_matrix ∧ R97 f_Md_kept) := d2
  refine ⟨ans ?_, n, D, p, LW, ⟨⟨h.1.1, h.1.2.1, h.1.2.2.1, h.1.2.2.2.1, h.1.2.2.2.2.1, h.1.2.2.2.2.2.1, h.1.2.2.2.2.2.2.1, h.1.2.2.2.2.2.2.2.1, h.1.2.2.2.2.2.2.2.2.1, h.1.2.2.2.2.2.2.2.2.2.1, h.1.2.2.2.2.2.2.2.2.2.2.1, h.1.2.2.2.2.2.2.2.2.2.2.2.1, h.1.2.2.2.2.2.2.2.2.2.2.2.2.1, h.1.2.2.2.2.2.2.2.2.2.2.2.2.2.1, h.1.2.2.2.2.2.2.2.2.2.2.2.2.2.2.1, c2, h.1.2.2.2.2.2.2.2.2.2.2.2.2.2.2.2.2.1, h.1.2.2.2.2.2.2.2.2.2.2.2.2.2.2.2.2.2.1, h.1.2.2.2.2.2.2.2.2.2.2.2.2.2.2.2.2.2.2⟩, ⟨h.2.1.1, h.2.1.2.1, h.2.1.2.2.1, c3.2.2, c3.2.1, c3.1, h.2.1.2.2.2.2.2.2.1, h.2.1.2.2.2.2.2.2.2.1, h.2.1.2.2.2.2.2.2.2.2.1, h.2.1.2.2.2.2.2.2.2.2.2.1, h.2.1.2.2.2.2.2.2.2.2.2.2.1, h.2.1.2.2.2.2.2.2.2.2.2.2.2.1, h.2.1.2.2.2.2.2.2.2.2.2.2.2.2.1, h.2.1.2.2.2.2.2.2.2.2.2.2.2.2.2.1, h.2.1.2.2.2.2.2.2.2.2.2.2.2.2.2.2⟩, ⟨h.2.2.1.1, h.2.2.1.2.1, h.2.2.1.2.2.1, h.2.2.1.2.2.2.1, h.2.2.1.2.2.2.2.1, d2.2.2, d2.1, h.2.2.1.2.2.2.2.2.2.2.1, h.2.2.1.2.2.2.2.2.2.2.2.1, h.2.2.1.2.2.2.2.2.2.2.2.2.1, h.2.2.1.2.2.2.2.2.2.2.2.2.2.1, h.2.2.1.2.2.2.2.2.2.2.2.2.2.2.1, d2.2.1, h.2.2.1.2.2.2.2.2.2.2.2.2.2.2.2.2.1, h.2.2.1.2.2.2.2.2.2.2.2.2.2.2.2.2.2.1, h.2.2.1.2.2.2.2.2.2.2.2.2.2.2.2.2.2.2.1, h.2.2.1.2.2.2.2.2.2.2.2.2.2.2.2.2.2.2.2.1, h.2.2.1.2.2.2.2.2.2.2.2.2.2.2.2.2.2.2.2.2.1, h.2.2.1.2.2.2.2.2.2.2.2.2.2.2.2.2.2.2.2.2.2.1, h.2.2.1.2.2.2.2.2.2.2.2.2.2.2.2.2.2.2.2.2.2.2.1, h.2.2.1.2.2.2.2.2.2.2.2.2.2.2.2.2.2.2.2.2.2.2.2⟩, ⟨h.2.2.2.1, h.2.2.2.2.1, h.2.2.2.2.2.1, h.2.2.2.2.2.2.1, h.2.2.2.2.2.2.2.1, h.2.2.2.2.2.2.2.2.1, h.2.2.2.2.2.2.2.2.2.1, h.2.2.2.2.2.2.2.2.2.2⟩⟩⟩
  rcases c1 with ⟨t1, u1⟩ | ⟨t1, u1⟩ <;> rcases d1 with ⟨t2, w1⟩ | ⟨t2, w1⟩
  · rw [u1, w1]
  · exact absurd t2 t1
  · exact absurd t1 t2
  · exact ce_fin hO t1 (szL_b _ hO).1 u1 w1
theorem eq_rank {σ : en_m} {n D p : Int} {LW : Int → (Int → Int) → Prop} (h : iV σ n D p LW) {y1 : Int} (g1 : i32 y1) {y2 : Int} (g2 : i32 y2) {y3 : Int} (g3 : i32 y3) : en_ct z_X11_rank [.inr (.inr (r_WA, 0)), .inl y1, .inl y2, .inl y3] σ (fun r σ1 => en_ct z_X12_rank [.inr (.inr (r_Md, 0)), .inl y1, .inl y2, .inl y3] σ1 (fun r' σ2 => (∃ v : Int, r = some (.inl v) ∧ r' = some (.inl v)) ∧ iX σ2)) := by
  have hO : sOk n D p := h.2.2.1.1.1
  have hp7 := hO.2.2.2.2.1
  have hp2 := hO.2.2.2.1
  have hS9 := sS_b (k := D + 1) hO
  have hLd := mN_L hO h.2.2.1.2.2.2.2.2.2.2.2.2.2.2.2.2.2.2.2.2.2.2.1
  have bE := h.2.2.2.2.2.2.1
  have mtp : 0 ≤ (σ r_Md_taped) 0 ∧ (σ r_Md_taped) 0 ≤ 2000 := by have q := h.1.2.1; have q2 := h.2.2.2.1; exact ⟨by omega, by omega⟩
  have msz : ∀ k, 0 ≤ k → k ≤ D → 0 ≤ (σ r_Md_sizes) k ∧ (σ r_Md_sizes) k ≤ 256 := fun k a b => by rw [mN_szL h.2.2.1.2.2.2.2.2.2.2.2.2.2.2.2.2.2.2.2.2.2.2.1 a b]; exact szL_b _ hO
  have mlm : 0 ≤ (σ r_Md_laws) ((σ r_Md_live) 0) ∧ (σ r_Md_laws) ((σ r_Md_live) 0) ≤ 8 := by have q := h.1.2.2.2.2.2.2.2.2.2.1.1; have q2 := h.1.2.2.2.2.2.2.2.2.2.2.1; have q3 := h.2.2.2.2.2.2.2.2.2.1; exact ⟨by omega, by omega⟩
  have mld : ∀ i, 0 ≤ i → i < (σ r_Md_laws) ((σ r_Md_live) 0) → (0 ≤ (σ r_Md_lawLength) (8 * (σ r_Md_live) 0 + i) ∧ (σ r_Md_lawLength) (8 * (σ r_Md_live) 0 + i) ≤ D) ∧ (1 ≤ (σ r_Md_lawLength) (8 * (σ r_Md_live) 0 + i) → 0 < n) := fun i a b => eL_e h.2.2.2.2.2.2.2.2.2.2 i a (by have q := h.2.2.2.2.2.2.2.2.2.1; omega)
  refine ct_mono (ct_X11_rank σ n D p LW (σ r_Md_leads) y1 y2 y3 h.1.1 g1 g2 g3 h.2.1.2.2.2.1 h.2.1.2.2.2.2.1 h.2.1.2.2.2.2.2.1 h.1.2.2.2.2.2.2.2.2.2.2.2.2.2.2.2.1 h.1.2.2.2.2.2.2.2.2.2.1 h.1.2.2.2.2.2.2.2.2.2.2.2.2.2.2.2.2.1 hLd) ?_
  rintro _ _ ⟨f_Nought0_row, f_Nought0_reduced, f_Nought0_leading, f_Nought0_forms, f_Nought0_formStart, f_Nought0_sizes, v_Nought0_reached, v_Ranks_wide, v_Ranks_rank, f_Ranks_unknowns, f_Ranks_isKept, f_Ranks_equation, f_Ranks_keptR, rr1, rfl, rfl, c1, c2, c3⟩
  refine ct_mono (ct_X12_rank _ n D p LW y1 y2 y3 h.2.2.1.1 g1 g2 g3 h.2.2.1.2.2.2.2.2.2.1 h.2.2.1.2.2.2.2.2.2.2.2.2.2.2.2.1 h.2.2.1.2.2.2.2.2.2.2.2.2.2.2.2.2.2.2.2.2.2.2.1) ?_
  rintro _ _ ⟨f_Md_matrix, v_Md_matrixRows, v_Md_matrixWide, f_Md_row, rr2, rfl, rfl, d1, d2⟩
  have d1 : ((¬ ((0 ≤ y1 ∧ y1 < n) ∧ 0 ≤ y2 ∧ y2 + 1 ≤ D) ∧ rr2 = -1) ∨ (((0 ≤ y1 ∧ y1 < n) ∧ 0 ≤ y2 ∧ y2 + 1 ≤ D) ∧ ∃ A9, raM n D p LW y2 y1 y3 (fun i => nth (fun v => bI ((σ r_Md_leads) (sS n D y2 + v) = 0)) i (sW n D y2).toNat) A9 (szL ((σ r_Md_leads)) n D y2) ∧ rkM p A9 (szL ((σ r_Md_leads)) n D y2) (sW n D (y2 + 1)) rr2)) := d1
  have d2 : (R97 f_Md_row ∧ R97 f_Md_matrix) := d2
  refine ⟨ans ?_, n, D, p, LW, ⟨⟨h.1.1, h.1.2.1, h.1.2.2.1, h.1.2.2.2.1, h.1.2.2.2.2.1, h.1.2.2.2.2.2.1, h.1.2.2.2.2.2.2.1, h.1.2.2.2.2.2.2.2.1, h.1.2.2.2.2.2.2.2.2.1, h.1.2.2.2.2.2.2.2.2.2.1, h.1.2.2.2.2.2.2.2.2.2.2.1, h.1.2.2.2.2.2.2.2.2.2.2.2.1, h.1.2.2.2.2.2.2.2.2.2.2.2.2.1, h.1.2.2.2.2.2.2.2.2.2.2.2.2.2.1, h.1.2.2.2.2.2.2.2.2.2.2.2.2.2.2.1, c2, h.1.2.2.2.2.2.2.2.2.2.2.2.2.2.2.2.2.1, h.1.2.2.2.2.2.2.2.2.2.2.2.2.2.2.2.2.2.1, h.1.2.2.2.2.2.2.2.2.2.2.2.2.2.2.2.2.2.2⟩, ⟨h.2.1.1, h.2.1.2.1, h.2.1.2.2.1, c3.2.2, c3.2.1, c3.1, h.2.1.2.2.2.2.2.2.1, h.2.1.2.2.2.2.2.2.2.1, h.2.1.2.2.2.2.2.2.2.2.1, h.2.1.2.2.2.2.2.2.2.2.2.1, h.2.1.2.2.2.2.2.2.2.2.2.2.1, h.2.1.2.2.2.2.2.2.2.2.2.2.2.1, h.2.1.2.2.2.2.2.2.2.2.2.2.2.2.1, h.2.1.2.2.2.2.2.2.2.2.2.2.2.2.2.1, h.2.1.2.2.2.2.2.2.2.2.2.2.2.2.2.2⟩, ⟨h.2.2.1.1, h.2.2.1.2.1, h.2.2.1.2.2.1, h.2.2.1.2.2.2.1, h.2.2.1.2.2.2.2.1, h.2.2.1.2.2.2.2.2.1, d2.1, h.2.2.1.2.2.2.2.2.2.2.1, h.2.2.1.2.2.2.2.2.2.2.2.1, h.2.2.1.2.2.2.2.2.2.2.2.2.1, h.2.2.1.2.2.2.2.2.2.2.2.2.2.1, h.2.2.1.2.2.2.2.2.2.2.2.2.2.2.1, d2.2, h.2.2.1.2.2.2.2.2.2.2.2.2.2.2.2.2.1, h.2.2.1.2.2.2.2.2.2.2.2.2.2.2.2.2.2.1, h.2.2.1.2.2.2.2.2.2.2.2.2.2.2.2.2.2.2.1, h.2.2.1.2.2.2.2.2.2.2.2.2.2.2.2.2.2.2.2.1, h.2.2.1.2.2.2.2.2.2.2.2.2.2.2.2.2.2.2.2.2.1, h.2.2.1.2.2.2.2.2.2.2.2.2.2.2.2.2.2.2.2.2.2.1, h.2.2.1.2.2.2.2.2.2.2.2.2.2.2.2.2.2.2.2.2.2.2.1, h.2.2.1.2.2.2.2.2.2.2.2.2.2.2.2.2.2.2.2.2.2.2.2⟩, ⟨h.2.2.2.1, h.2.2.2.2.1, h.2.2.2.2.2.1, h.2.2.2.2.2.2.1, h.2.2.2.2.2.2.2.1, h.2.2.2.2.2.2.2.2.1, h.2.2.2.2.2.2.2.2.2.1, h.2.2.2.2.2.2.2.2.2.2⟩⟩⟩
  rcases c1 with ⟨t1, u1⟩ | ⟨t1, u1⟩ <;> rcases d1 with ⟨t2, w1⟩ | ⟨t2, w1⟩
  · rw [u1, w1]
  · exact absurd t2 t1
  · exact absurd t1 t2
  · exact rk_fin hO t1.2 (szL_b _ hO).1 u1 w1
theorem eq_points {σ : en_m} {n D p : Int} {LW : Int → (Int → Int) → Prop} (h : iV σ n D p LW) : en_ct z_X11_points [.inr (.inr (r_WA, 0))] σ (fun r σ1 => en_ct z_X12_points [.inr (.inr (r_Md, 0))] σ1 (fun r' σ2 => (∃ v : Int, r = some (.inl v) ∧ r' = some (.inl v)) ∧ iX σ2)) := by
  have hO : sOk n D p := h.2.2.1.1.1
  have hp7 := hO.2.2.2.2.1
  have hp2 := hO.2.2.2.1
  have hS9 := sS_b (k := D + 1) hO
  have hLd := mN_L hO h.2.2.1.2.2.2.2.2.2.2.2.2.2.2.2.2.2.2.2.2.2.2.1
  have bE := h.2.2.2.2.2.2.1
  have mtp : 0 ≤ (σ r_Md_taped) 0 ∧ (σ r_Md_taped) 0 ≤ 2000 := by have q := h.1.2.1; have q2 := h.2.2.2.1; exact ⟨by omega, by omega⟩
  have msz : ∀ k, 0 ≤ k → k ≤ D → 0 ≤ (σ r_Md_sizes) k ∧ (σ r_Md_sizes) k ≤ 256 := fun k a b => by rw [mN_szL h.2.2.1.2.2.2.2.2.2.2.2.2.2.2.2.2.2.2.2.2.2.2.1 a b]; exact szL_b _ hO
  have mlm : 0 ≤ (σ r_Md_laws) ((σ r_Md_live) 0) ∧ (σ r_Md_laws) ((σ r_Md_live) 0) ≤ 8 := by have q := h.1.2.2.2.2.2.2.2.2.2.1.1; have q2 := h.1.2.2.2.2.2.2.2.2.2.2.1; have q3 := h.2.2.2.2.2.2.2.2.2.1; exact ⟨by omega, by omega⟩
  have mld : ∀ i, 0 ≤ i → i < (σ r_Md_laws) ((σ r_Md_live) 0) → (0 ≤ (σ r_Md_lawLength) (8 * (σ r_Md_live) 0 + i) ∧ (σ r_Md_lawLength) (8 * (σ r_Md_live) 0 + i) ≤ D) ∧ (1 ≤ (σ r_Md_lawLength) (8 * (σ r_Md_live) 0 + i) → 0 < n) := fun i a b => eL_e h.2.2.2.2.2.2.2.2.2.2 i a (by have q := h.2.2.2.2.2.2.2.2.2.1; omega)
  refine ct_mono (ct_X11_points σ n D p h.1.1 ⟨h.1.2.2.2.2.2.2.2.2.2.1.1.1, h.1.2.2.2.2.2.2.2.2.2.2.1⟩ h.1.2.2.2.2.2.2.2.2.2.1.2.2 ⟨h.1.2.2.2.2.2.2.2.2.2.1.2.1, fun x => (h.1.2.2.2.2.2.2.2.2.2.1.2.1 x).2⟩ (eL_d h.2.2.2.2.2.2.2.2.2.2) (eL_z h.2.2.2.2.2.2.2.2.2.2) h.2.1.2.2.2.2.2.2.1 h.2.1.2.2.2.2.2.2.2.1 h.2.1.2.2.2.2.2.2.2.2.1 h.2.1.2.2.2.2.2.2.2.2.2.1 h.2.1.2.2.2.2.2.2.2.2.2.2.1) ?_
  rintro _ _ ⟨v_Squares_side, v_Squares_squares, f_Squares_sumTable, f_Squares_productTable, f_Squares_termSquares, f_Squares_termShares, f_Squares_termLetters, f_Squares_lawTops, f_Squares_lawEnds, f_Squares_row, f_Squares_values, f_Squares_products, f_Squares_seen, v_WA_pointsKnown, rr1, rfl, rfl, c1, c2, c3, c4⟩
  refine ct_mono (ct_X12_points _ n D p h.2.2.1.1 mlm mld h.2.2.1.2.2.2.2.2.2.2.2.2.1 h.2.2.1.2.2.2.2.2.2.2.2.2.2.1 h.2.2.1.2.2.2.2.2.2.2.2.2.2.2.1) ?_
  rintro _ _ ⟨f_Md_given, f_Md_product, f_Md_square, f_Md_squares, rr2, rfl, rfl, d1, d2⟩
  have d1 : (rr2 = wyF 1 p n D (fun i => (σ r_Md_lawLength) (8 * (σ r_Md_live) 0 + i)) ((σ r_Md_laws) ((σ r_Md_live) 0)) (fun x => (σ r_Md_lawRow) (2048 * (σ r_Md_live) 0 + x)) 100000) := d1
  have d2 : (R97 f_Md_given ∧ R97 f_Md_square) := d2
  refine ⟨ans ?_, n, D, p, LW, ⟨⟨h.1.1, h.1.2.1, h.1.2.2.1, h.1.2.2.2.1, h.1.2.2.2.2.1, h.1.2.2.2.2.2.1, h.1.2.2.2.2.2.2.1, h.1.2.2.2.2.2.2.2.1, h.1.2.2.2.2.2.2.2.2.1, h.1.2.2.2.2.2.2.2.2.2.1, h.1.2.2.2.2.2.2.2.2.2.2.1, h.1.2.2.2.2.2.2.2.2.2.2.2.1, h.1.2.2.2.2.2.2.2.2.2.2.2.2.1, h.1.2.2.2.2.2.2.2.2.2.2.2.2.2.1, h.1.2.2.2.2.2.2.2.2.2.2.2.2.2.2.1, h.1.2.2.2.2.2.2.2.2.2.2.2.2.2.2.2.1, h.1.2.2.2.2.2.2.2.2.2.2.2.2.2.2.2.2.1, h.1.2.2.2.2.2.2.2.2.2.2.2.2.2.2.2.2.2.1, h.1.2.2.2.2.2.2.2.2.2.2.2.2.2.2.2.2.2.2⟩, ⟨h.2.1.1, h.2.1.2.1, h.2.1.2.2.1, h.2.1.2.2.2.1, h.2.1.2.2.2.2.1, h.2.1.2.2.2.2.2.1, c4.1, c4.2.1, c4.2.2, c3, (.inr c2), h.2.1.2.2.2.2.2.2.2.2.2.2.2.1, h.2.1.2.2.2.2.2.2.2.2.2.2.2.2.1, h.2.1.2.2.2.2.2.2.2.2.2.2.2.2.2.1, h.2.1.2.2.2.2.2.2.2.2.2.2.2.2.2.2⟩, ⟨h.2.2.1.1, h.2.2.1.2.1, h.2.2.1.2.2.1, h.2.2.1.2.2.2.1, h.2.2.1.2.2.2.2.1, h.2.2.1.2.2.2.2.2.1, h.2.2.1.2.2.2.2.2.2.1, h.2.2.1.2.2.2.2.2.2.2.1, h.2.2.1.2.2.2.2.2.2.2.2.1, d2.1, h.2.2.1.2.2.2.2.2.2.2.2.2.2.1, d2.2, h.2.2.1.2.2.2.2.2.2.2.2.2.2.2.2.1, h.2.2.1.2.2.2.2.2.2.2.2.2.2.2.2.2.1, h.2.2.1.2.2.2.2.2.2.2.2.2.2.2.2.2.2.1, h.2.2.1.2.2.2.2.2.2.2.2.2.2.2.2.2.2.2.1, h.2.2.1.2.2.2.2.2.2.2.2.2.2.2.2.2.2.2.2.1, h.2.2.1.2.2.2.2.2.2.2.2.2.2.2.2.2.2.2.2.2.1, h.2.2.1.2.2.2.2.2.2.2.2.2.2.2.2.2.2.2.2.2.2.1, h.2.2.1.2.2.2.2.2.2.2.2.2.2.2.2.2.2.2.2.2.2.2.1, h.2.2.1.2.2.2.2.2.2.2.2.2.2.2.2.2.2.2.2.2.2.2.2⟩, ⟨h.2.2.2.1, h.2.2.2.2.1, h.2.2.2.2.2.1, h.2.2.2.2.2.2.1, h.2.2.2.2.2.2.2.1, h.2.2.2.2.2.2.2.2.1, h.2.2.2.2.2.2.2.2.2.1, h.2.2.2.2.2.2.2.2.2.2⟩⟩⟩
  rw [c1, d1, ← h.2.2.2.2.2.2.2.2.2.1]
  exact eL_w h.2.2.2.2.2.2.2.2.2.2
theorem eq_modules {σ : en_m} {n D p : Int} {LW : Int → (Int → Int) → Prop} (h : iV σ n D p LW) : en_ct z_X11_modules [.inr (.inr (r_WA, 0))] σ (fun r σ1 => en_ct z_X12_modules [.inr (.inr (r_Md, 0))] σ1 (fun r' σ2 => (∃ v : Int, r = some (.inl v) ∧ r' = some (.inl v)) ∧ iX σ2)) := by
  have hO : sOk n D p := h.2.2.1.1.1
  have hp7 := hO.2.2.2.2.1
  have hp2 := hO.2.2.2.1
  have hS9 := sS_b (k := D + 1) hO
  have hLd := mN_L hO h.2.2.1.2.2.2.2.2.2.2.2.2.2.2.2.2.2.2.2.2.2.2.1
  have bE := h.2.2.2.2.2.2.1
  have mtp : 0 ≤ (σ r_Md_taped) 0 ∧ (σ r_Md_taped) 0 ≤ 2000 := by have q := h.1.2.1; have q2 := h.2.2.2.1; exact ⟨by omega, by omega⟩
  have msz : ∀ k, 0 ≤ k → k ≤ D → 0 ≤ (σ r_Md_sizes) k ∧ (σ r_Md_sizes) k ≤ 256 := fun k a b => by rw [mN_szL h.2.2.1.2.2.2.2.2.2.2.2.2.2.2.2.2.2.2.2.2.2.2.1 a b]; exact szL_b _ hO
  have mlm : 0 ≤ (σ r_Md_laws) ((σ r_Md_live) 0) ∧ (σ r_Md_laws) ((σ r_Md_live) 0) ≤ 8 := by have q := h.1.2.2.2.2.2.2.2.2.2.1.1; have q2 := h.1.2.2.2.2.2.2.2.2.2.2.1; have q3 := h.2.2.2.2.2.2.2.2.2.1; exact ⟨by omega, by omega⟩
  have mld : ∀ i, 0 ≤ i → i < (σ r_Md_laws) ((σ r_Md_live) 0) → (0 ≤ (σ r_Md_lawLength) (8 * (σ r_Md_live) 0 + i) ∧ (σ r_Md_lawLength) (8 * (σ r_Md_live) 0 + i) ≤ D) ∧ (1 ≤ (σ r_Md_lawLength) (8 * (σ r_Md_live) 0 + i) → 0 < n) := fun i a b => eL_e h.2.2.2.2.2.2.2.2.2.2 i a (by have q := h.2.2.2.2.2.2.2.2.2.1; omega)
  refine ct_mono (ct_X11_modules σ n D p h.1.1 ⟨h.1.2.2.2.2.2.2.2.2.2.1.1.1, h.1.2.2.2.2.2.2.2.2.2.2.1⟩ h.1.2.2.2.2.2.2.2.2.2.1.2.2 ⟨h.1.2.2.2.2.2.2.2.2.2.1.2.1, fun x => (h.1.2.2.2.2.2.2.2.2.2.1.2.1 x).2⟩ (eL_d h.2.2.2.2.2.2.2.2.2.2) (eL_z h.2.2.2.2.2.2.2.2.2.2) h.2.1.2.2.2.2.2.2.1 h.2.1.2.2.2.2.2.2.2.1 h.2.1.2.2.2.2.2.2.2.2.1 h.2.1.2.2.2.2.2.2.2.2.2.2.2.1 h.2.1.2.2.2.2.2.2.2.2.2.2.2.2.1) ?_
  rintro _ _ ⟨v_Squares_side, v_Squares_squares, f_Squares_sumTable, f_Squares_productTable, f_Squares_termSquares, f_Squares_termShares, f_Squares_termLetters, f_Squares_lawTops, f_Squares_lawEnds, f_Squares_row, f_Squares_values, f_Squares_products, f_Squares_seen, v_WA_modulesKnown, rr1, rfl, rfl, c1, c2, c3, c4⟩
  refine ct_mono (ct_X12_modules _ n D p h.2.2.1.1 mlm mld h.2.2.1.2.2.2.2.2.2.2.2.2.1 h.2.2.1.2.2.2.2.2.2.2.2.2.2.1 h.2.2.1.2.2.2.2.2.2.2.2.2.2.2.1) ?_
  rintro _ _ ⟨f_Md_given, f_Md_product, f_Md_square, f_Md_squares, rr2, rfl, rfl, d1, d2⟩
  have d1 : (rr2 = wyF 2 p n D (fun i => (σ r_Md_lawLength) (8 * (σ r_Md_live) 0 + i)) ((σ r_Md_laws) ((σ r_Md_live) 0)) (fun x => (σ r_Md_lawRow) (2048 * (σ r_Md_live) 0 + x)) 65536) := d1
  have d2 : (R97 f_Md_given ∧ R97 f_Md_square) := d2
  refine ⟨ans ?_, n, D, p, LW, ⟨⟨h.1.1, h.1.2.1, h.1.2.2.1, h.1.2.2.2.1, h.1.2.2.2.2.1, h.1.2.2.2.2.2.1, h.1.2.2.2.2.2.2.1, h.1.2.2.2.2.2.2.2.1, h.1.2.2.2.2.2.2.2.2.1, h.1.2.2.2.2.2.2.2.2.2.1, h.1.2.2.2.2.2.2.2.2.2.2.1, h.1.2.2.2.2.2.2.2.2.2.2.2.1, h.1.2.2.2.2.2.2.2.2.2.2.2.2.1, h.1.2.2.2.2.2.2.2.2.2.2.2.2.2.1, h.1.2.2.2.2.2.2.2.2.2.2.2.2.2.2.1, h.1.2.2.2.2.2.2.2.2.2.2.2.2.2.2.2.1, h.1.2.2.2.2.2.2.2.2.2.2.2.2.2.2.2.2.1, h.1.2.2.2.2.2.2.2.2.2.2.2.2.2.2.2.2.2.1, h.1.2.2.2.2.2.2.2.2.2.2.2.2.2.2.2.2.2.2⟩, ⟨h.2.1.1, h.2.1.2.1, h.2.1.2.2.1, h.2.1.2.2.2.1, h.2.1.2.2.2.2.1, h.2.1.2.2.2.2.2.1, c4.1, c4.2.1, c4.2.2, h.2.1.2.2.2.2.2.2.2.2.2.1, h.2.1.2.2.2.2.2.2.2.2.2.2.1, c3, (.inr c2), h.2.1.2.2.2.2.2.2.2.2.2.2.2.2.2.1, h.2.1.2.2.2.2.2.2.2.2.2.2.2.2.2.2⟩, ⟨h.2.2.1.1, h.2.2.1.2.1, h.2.2.1.2.2.1, h.2.2.1.2.2.2.1, h.2.2.1.2.2.2.2.1, h.2.2.1.2.2.2.2.2.1, h.2.2.1.2.2.2.2.2.2.1, h.2.2.1.2.2.2.2.2.2.2.1, h.2.2.1.2.2.2.2.2.2.2.2.1, d2.1, h.2.2.1.2.2.2.2.2.2.2.2.2.2.1, d2.2, h.2.2.1.2.2.2.2.2.2.2.2.2.2.2.2.1, h.2.2.1.2.2.2.2.2.2.2.2.2.2.2.2.2.1, h.2.2.1.2.2.2.2.2.2.2.2.2.2.2.2.2.2.1, h.2.2.1.2.2.2.2.2.2.2.2.2.2.2.2.2.2.2.1, h.2.2.1.2.2.2.2.2.2.2.2.2.2.2.2.2.2.2.2.1, h.2.2.1.2.2.2.2.2.2.2.2.2.2.2.2.2.2.2.2.2.1, h.2.2.1.2.2.2.2.2.2.2.2.2.2.2.2.2.2.2.2.2.2.1, h.2.2.1.2.2.2.2.2.2.2.2.2.2.2.2.2.2.2.2.2.2.2.1, h.2.2.1.2.2.2.2.2.2.2.2.2.2.2.2.2.2.2.2.2.2.2.2⟩, ⟨h.2.2.2.1, h.2.2.2.2.1, h.2.2.2.2.2.1, h.2.2.2.2.2.2.1, h.2.2.2.2.2.2.2.1, h.2.2.2.2.2.2.2.2.1, h.2.2.2.2.2.2.2.2.2.1, h.2.2.2.2.2.2.2.2.2.2⟩⟩⟩
  rw [c1, d1, ← h.2.2.2.2.2.2.2.2.2.1]
  exact eL_w h.2.2.2.2.2.2.2.2.2.2
theorem eq_hold {σ : en_m} {n D p : Int} {LW : Int → (Int → Int) → Prop} (h : iV σ n D p LW) {y1 : Int} (g1 : i32 y1) : en_ct z_X11_hold [.inr (.inr (r_WA, 0)), .inl y1] σ (fun r σ1 => en_ct z_X12_hold [.inr (.inr (r_Md, 0)), .inl y1] σ1 (fun r' σ2 => (∃ v : Int, r = some (.inl v) ∧ r' = some (.inl v)) ∧ iX σ2)) := by
  have hO : sOk n D p := h.2.2.1.1.1
  have hp7 := hO.2.2.2.2.1
  have hp2 := hO.2.2.2.1
  have hS9 := sS_b (k := D + 1) hO
  have hLd := mN_L hO h.2.2.1.2.2.2.2.2.2.2.2.2.2.2.2.2.2.2.2.2.2.2.1
  have bE := h.2.2.2.2.2.2.1
  have mtp : 0 ≤ (σ r_Md_taped) 0 ∧ (σ r_Md_taped) 0 ≤ 2000 := by have q := h.1.2.1; have q2 := h.2.2.2.1; exact ⟨by omega, by omega⟩
  have msz : ∀ k, 0 ≤ k → k ≤ D → 0 ≤ (σ r_Md_sizes) k ∧ (σ r_Md_sizes) k ≤ 256 := fun k a b => by rw [mN_szL h.2.2.1.2.2.2.2.2.2.2.2.2.2.2.2.2.2.2.2.2.2.2.1 a b]; exact szL_b _ hO
  have mlm : 0 ≤ (σ r_Md_laws) ((σ r_Md_live) 0) ∧ (σ r_Md_laws) ((σ r_Md_live) 0) ≤ 8 := by have q := h.1.2.2.2.2.2.2.2.2.2.1.1; have q2 := h.1.2.2.2.2.2.2.2.2.2.2.1; have q3 := h.2.2.2.2.2.2.2.2.2.1; exact ⟨by omega, by omega⟩
  have mld : ∀ i, 0 ≤ i → i < (σ r_Md_laws) ((σ r_Md_live) 0) → (0 ≤ (σ r_Md_lawLength) (8 * (σ r_Md_live) 0 + i) ∧ (σ r_Md_lawLength) (8 * (σ r_Md_live) 0 + i) ≤ D) ∧ (1 ≤ (σ r_Md_lawLength) (8 * (σ r_Md_live) 0 + i) → 0 < n) := fun i a b => eL_e h.2.2.2.2.2.2.2.2.2.2 i a (by have q := h.2.2.2.2.2.2.2.2.2.1; omega)
  refine ct_mono (ct_X11_hold σ y1 g1) ?_
  rintro _ _ ⟨f_Elements_slotRowsR, f_Elements_isKept, rfl, rfl, c1, c2⟩
  refine ct_mono (ct_X12_hold _ y1 g1) ?_
  rintro _ _ ⟨f_Md_isHeld, f_Md_held, rfl, rfl, d1, d2⟩
  have d1 : (f_Md_isHeld = if 0 ≤ y1 ∧ y1 ≤ 2 then up ((σ r_Md_isHeld)) y1 1 else (σ r_Md_isHeld)) := d1
  have d2 : (f_Md_held = if 0 ≤ y1 ∧ y1 ≤ 2 then seg ((σ r_Md_held)) (2400 * y1) 2400 (fun k => (σ r_Md_element) k) else (σ r_Md_held)) := d2
  have k : R97 f_Elements_slotRowsR ∧ R01 f_Elements_isKept ∧ R97 f_Md_held ∧ R01 f_Md_isHeld ∧ eH n D p f_Elements_isKept f_Elements_slotRowsR f_Md_isHeld f_Md_held := by
    by_cases q : 0 ≤ y1 ∧ y1 ≤ 2
    · rw [if_pos q] at c1 c2 d1 d2
      rw [c1, c2, d1, d2]
      exact ⟨R97_seg h.2.1.2.2.2.2.2.2.2.2.2.2.2.2.2.2 (fun x _ _ => h.1.2.2.2.2.2.2.2.2.2.2.2.1 x), R01_up h.2.1.2.2.2.2.2.2.2.2.2.2.2.2.2.1 (.inr rfl), R97_seg h.2.2.1.2.2.2.2.2.2.2.2.2.2.2.2.2.2.1 (fun x _ _ => h.2.2.1.2.2.2.2.2.2.2.2.2.2.2.2.2.1 x), R01_up h.2.2.1.2.2.2.2.2.2.2.2.2.2.2.2.2.2.2.2.2.2.1 (.inr rfl), eH_hold hO h.2.2.2.2.2.2.2.1 bE q⟩
    · rw [if_neg q] at c1 c2 d1 d2
      rw [c1, c2, d1, d2]
      exact ⟨h.2.1.2.2.2.2.2.2.2.2.2.2.2.2.2.2, h.2.1.2.2.2.2.2.2.2.2.2.2.2.2.2.1, h.2.2.1.2.2.2.2.2.2.2.2.2.2.2.2.2.2.1, h.2.2.1.2.2.2.2.2.2.2.2.2.2.2.2.2.2.2.2.2.2.1, h.2.2.2.2.2.2.2.1⟩
  refine ⟨ans ?_, n, D, p, LW, ⟨⟨h.1.1, h.1.2.1, h.1.2.2.1, h.1.2.2.2.1, h.1.2.2.2.2.1, h.1.2.2.2.2.2.1, h.1.2.2.2.2.2.2.1, h.1.2.2.2.2.2.2.2.1, h.1.2.2.2.2.2.2.2.2.1, h.1.2.2.2.2.2.2.2.2.2.1, h.1.2.2.2.2.2.2.2.2.2.2.1, h.1.2.2.2.2.2.2.2.2.2.2.2.1, h.1.2.2.2.2.2.2.2.2.2.2.2.2.1, h.1.2.2.2.2.2.2.2.2.2.2.2.2.2.1, h.1.2.2.2.2.2.2.2.2.2.2.2.2.2.2.1, h.1.2.2.2.2.2.2.2.2.2.2.2.2.2.2.2.1, h.1.2.2.2.2.2.2.2.2.2.2.2.2.2.2.2.2.1, h.1.2.2.2.2.2.2.2.2.2.2.2.2.2.2.2.2.2.1, h.1.2.2.2.2.2.2.2.2.2.2.2.2.2.2.2.2.2.2⟩, ⟨h.2.1.1, h.2.1.2.1, h.2.1.2.2.1, h.2.1.2.2.2.1, h.2.1.2.2.2.2.1, h.2.1.2.2.2.2.2.1, h.2.1.2.2.2.2.2.2.1, h.2.1.2.2.2.2.2.2.2.1, h.2.1.2.2.2.2.2.2.2.2.1, h.2.1.2.2.2.2.2.2.2.2.2.1, h.2.1.2.2.2.2.2.2.2.2.2.2.1, h.2.1.2.2.2.2.2.2.2.2.2.2.2.1, h.2.1.2.2.2.2.2.2.2.2.2.2.2.2.1, k.2.1, k.1⟩, ⟨h.2.2.1.1, h.2.2.1.2.1, h.2.2.1.2.2.1, h.2.2.1.2.2.2.1, h.2.2.1.2.2.2.2.1, h.2.2.1.2.2.2.2.2.1, h.2.2.1.2.2.2.2.2.2.1, h.2.2.1.2.2.2.2.2.2.2.1, h.2.2.1.2.2.2.2.2.2.2.2.1, h.2.2.1.2.2.2.2.2.2.2.2.2.1, h.2.2.1.2.2.2.2.2.2.2.2.2.2.1, h.2.2.1.2.2.2.2.2.2.2.2.2.2.2.1, h.2.2.1.2.2.2.2.2.2.2.2.2.2.2.2.1, h.2.2.1.2.2.2.2.2.2.2.2.2.2.2.2.2.1, k.2.2.1, h.2.2.1.2.2.2.2.2.2.2.2.2.2.2.2.2.2.2.1, h.2.2.1.2.2.2.2.2.2.2.2.2.2.2.2.2.2.2.2.1, h.2.2.1.2.2.2.2.2.2.2.2.2.2.2.2.2.2.2.2.2.1, k.2.2.2.1, h.2.2.1.2.2.2.2.2.2.2.2.2.2.2.2.2.2.2.2.2.2.2.1, h.2.2.1.2.2.2.2.2.2.2.2.2.2.2.2.2.2.2.2.2.2.2.2⟩, ⟨h.2.2.2.1, h.2.2.2.2.1, h.2.2.2.2.2.1, h.2.2.2.2.2.2.1, k.2.2.2.2, h.2.2.2.2.2.2.2.2.1, h.2.2.2.2.2.2.2.2.2.1, h.2.2.2.2.2.2.2.2.2.2⟩⟩⟩
  rfl
theorem eq_restore {σ : en_m} {n D p : Int} {LW : Int → (Int → Int) → Prop} (h : iV σ n D p LW) {y1 : Int} (g1 : i32 y1) : en_ct z_X11_restore [.inr (.inr (r_WA, 0)), .inl y1] σ (fun r σ1 => en_ct z_X12_restore [.inr (.inr (r_Md, 0)), .inl y1] σ1 (fun r' σ2 => (∃ v : Int, r = some (.inl v) ∧ r' = some (.inl v)) ∧ iX σ2)) := by
  have hO : sOk n D p := h.2.2.1.1.1
  have hp7 := hO.2.2.2.2.1
  have hp2 := hO.2.2.2.1
  have hS9 := sS_b (k := D + 1) hO
  have hLd := mN_L hO h.2.2.1.2.2.2.2.2.2.2.2.2.2.2.2.2.2.2.2.2.2.2.1
  have bE := h.2.2.2.2.2.2.1
  have mtp : 0 ≤ (σ r_Md_taped) 0 ∧ (σ r_Md_taped) 0 ≤ 2000 := by have q := h.1.2.1; have q2 := h.2.2.2.1; exact ⟨by omega, by omega⟩
  have msz : ∀ k, 0 ≤ k → k ≤ D → 0 ≤ (σ r_Md_sizes) k ∧ (σ r_Md_sizes) k ≤ 256 := fun k a b => by rw [mN_szL h.2.2.1.2.2.2.2.2.2.2.2.2.2.2.2.2.2.2.2.2.2.2.1 a b]; exact szL_b _ hO
  have mlm : 0 ≤ (σ r_Md_laws) ((σ r_Md_live) 0) ∧ (σ r_Md_laws) ((σ r_Md_live) 0) ≤ 8 := by have q := h.1.2.2.2.2.2.2.2.2.2.1.1; have q2 := h.1.2.2.2.2.2.2.2.2.2.2.1; have q3 := h.2.2.2.2.2.2.2.2.2.1; exact ⟨by omega, by omega⟩
  have mld : ∀ i, 0 ≤ i → i < (σ r_Md_laws) ((σ r_Md_live) 0) → (0 ≤ (σ r_Md_lawLength) (8 * (σ r_Md_live) 0 + i) ∧ (σ r_Md_lawLength) (8 * (σ r_Md_live) 0 + i) ≤ D) ∧ (1 ≤ (σ r_Md_lawLength) (8 * (σ r_Md_live) 0 + i) → 0 < n) := fun i a b => eL_e h.2.2.2.2.2.2.2.2.2.2 i a (by have q := h.2.2.2.2.2.2.2.2.2.1; omega)
  refine ct_mono (ct_X11_restore σ y1 g1 h.2.1.2.2.2.2.2.2.2.2.2.2.2.2.2.1) ?_
  rintro _ _ ⟨f_Elements_rowsR, rfl, rfl, c1⟩
  refine ct_mono (ct_X12_restore _ y1 g1 h.2.2.1.2.2.2.2.2.2.2.2.2.2.2.2.2.2.2.2.2.2.1) ?_
  rintro _ _ ⟨f_Md_element, rfl, rfl, d1⟩
  have d1 : (f_Md_element = if (0 ≤ y1 ∧ y1 ≤ 2) ∧ ¬ (σ r_Md_isHeld) y1 = 0 then seg (σ r_Md_element) 0 2400 (fun k => (σ r_Md_held) (2400 * y1 + k)) else (σ r_Md_element)) := d1
  have kq : ((0 ≤ y1 ∧ y1 ≤ 2) ∧ ¬ (σ r_Elements_isKept) y1 = 0) ↔ ((0 ≤ y1 ∧ y1 ≤ 2) ∧ ¬ (σ r_Md_isHeld) y1 = 0) := ⟨fun q => ⟨q.1, by rw [← (h.2.2.2.2.2.2.2.1 y1 q.1.1 q.1.2).1]; exact q.2⟩, fun q => ⟨q.1, by rw [(h.2.2.2.2.2.2.2.1 y1 q.1.1 q.1.2).1]; exact q.2⟩⟩
  have k : R97 f_Elements_rowsR ∧ R97 f_Md_element ∧ eE n D p f_Elements_rowsR f_Md_element := by
    by_cases q : (0 ≤ y1 ∧ y1 ≤ 2) ∧ ¬ (σ r_Elements_isKept) y1 = 0
    · rw [if_pos q] at c1
      rw [if_pos (kq.mp q)] at d1
      rw [c1, d1]
      exact ⟨R97_seg h.1.2.2.2.2.2.2.2.2.2.2.2.1 (fun x _ _ => h.2.1.2.2.2.2.2.2.2.2.2.2.2.2.2.2 _), R97_seg h.2.2.1.2.2.2.2.2.2.2.2.2.2.2.2.2.1 (fun x _ _ => h.2.2.1.2.2.2.2.2.2.2.2.2.2.2.2.2.2.1 _), eH_rest hO h.2.2.2.2.2.2.2.1 q.1 q.2⟩
    · rw [if_neg q] at c1
      rw [if_neg (fun r => q (kq.mpr r))] at d1
      rw [c1, d1]
      exact ⟨h.1.2.2.2.2.2.2.2.2.2.2.2.1, h.2.2.1.2.2.2.2.2.2.2.2.2.2.2.2.2.1, bE⟩
  refine ⟨ans ?_, n, D, p, LW, ⟨⟨h.1.1, h.1.2.1, h.1.2.2.1, h.1.2.2.2.1, h.1.2.2.2.2.1, h.1.2.2.2.2.2.1, h.1.2.2.2.2.2.2.1, h.1.2.2.2.2.2.2.2.1, h.1.2.2.2.2.2.2.2.2.1, h.1.2.2.2.2.2.2.2.2.2.1, h.1.2.2.2.2.2.2.2.2.2.2.1, k.1, h.1.2.2.2.2.2.2.2.2.2.2.2.2.1, h.1.2.2.2.2.2.2.2.2.2.2.2.2.2.1, h.1.2.2.2.2.2.2.2.2.2.2.2.2.2.2.1, h.1.2.2.2.2.2.2.2.2.2.2.2.2.2.2.2.1, h.1.2.2.2.2.2.2.2.2.2.2.2.2.2.2.2.2.1, h.1.2.2.2.2.2.2.2.2.2.2.2.2.2.2.2.2.2.1, h.1.2.2.2.2.2.2.2.2.2.2.2.2.2.2.2.2.2.2⟩, ⟨h.2.1.1, h.2.1.2.1, h.2.1.2.2.1, h.2.1.2.2.2.1, h.2.1.2.2.2.2.1, h.2.1.2.2.2.2.2.1, h.2.1.2.2.2.2.2.2.1, h.2.1.2.2.2.2.2.2.2.1, h.2.1.2.2.2.2.2.2.2.2.1, h.2.1.2.2.2.2.2.2.2.2.2.1, h.2.1.2.2.2.2.2.2.2.2.2.2.1, h.2.1.2.2.2.2.2.2.2.2.2.2.2.1, h.2.1.2.2.2.2.2.2.2.2.2.2.2.2.1, h.2.1.2.2.2.2.2.2.2.2.2.2.2.2.2.1, h.2.1.2.2.2.2.2.2.2.2.2.2.2.2.2.2⟩, ⟨h.2.2.1.1, h.2.2.1.2.1, h.2.2.1.2.2.1, h.2.2.1.2.2.2.1, h.2.2.1.2.2.2.2.1, h.2.2.1.2.2.2.2.2.1, h.2.2.1.2.2.2.2.2.2.1, h.2.2.1.2.2.2.2.2.2.2.1, h.2.2.1.2.2.2.2.2.2.2.2.1, h.2.2.1.2.2.2.2.2.2.2.2.2.1, h.2.2.1.2.2.2.2.2.2.2.2.2.2.1, h.2.2.1.2.2.2.2.2.2.2.2.2.2.2.1, h.2.2.1.2.2.2.2.2.2.2.2.2.2.2.2.1, k.2.1, h.2.2.1.2.2.2.2.2.2.2.2.2.2.2.2.2.2.1, h.2.2.1.2.2.2.2.2.2.2.2.2.2.2.2.2.2.2.1, h.2.2.1.2.2.2.2.2.2.2.2.2.2.2.2.2.2.2.2.1, h.2.2.1.2.2.2.2.2.2.2.2.2.2.2.2.2.2.2.2.2.1, h.2.2.1.2.2.2.2.2.2.2.2.2.2.2.2.2.2.2.2.2.2.1, h.2.2.1.2.2.2.2.2.2.2.2.2.2.2.2.2.2.2.2.2.2.2.1, h.2.2.1.2.2.2.2.2.2.2.2.2.2.2.2.2.2.2.2.2.2.2.2⟩, ⟨h.2.2.2.1, h.2.2.2.2.1, h.2.2.2.2.2.1, k.2.2, h.2.2.2.2.2.2.2.1, h.2.2.2.2.2.2.2.2.1, h.2.2.2.2.2.2.2.2.2.1, h.2.2.2.2.2.2.2.2.2.2⟩⟩⟩
  exact bI_iff kq
theorem eq_count {σ : en_m} {n D p : Int} {LW : Int → (Int → Int) → Prop} (h : iV σ n D p LW) {y1 : Int} (g1 : i32 y1) : en_ct z_X11_count [.inr (.inr (r_WA, 0)), .inl y1] σ (fun r σ1 => en_ct z_X12_count [.inr (.inr (r_Md, 0)), .inl y1] σ1 (fun r' σ2 => (∃ v : Int, r = some (.inl v) ∧ r' = some (.inl v)) ∧ iX σ2)) := by
  have hO : sOk n D p := h.2.2.1.1.1
  have hp7 := hO.2.2.2.2.1
  have hp2 := hO.2.2.2.1
  have hS9 := sS_b (k := D + 1) hO
  have hLd := mN_L hO h.2.2.1.2.2.2.2.2.2.2.2.2.2.2.2.2.2.2.2.2.2.2.1
  have bE := h.2.2.2.2.2.2.1
  have mtp : 0 ≤ (σ r_Md_taped) 0 ∧ (σ r_Md_taped) 0 ≤ 2000 := by have q := h.1.2.1; have q2 := h.2.2.2.1; exact ⟨by omega, by omega⟩
  have msz : ∀ k, 0 ≤ k → k ≤ D → 0 ≤ (σ r_Md_sizes) k ∧ (σ r_Md_sizes) k ≤ 256 := fun k a b => by rw [mN_szL h.2.2.1.2.2.2.2.2.2.2.2.2.2.2.2.2.2.2.2.2.2.2.1 a b]; exact szL_b _ hO
  have mlm : 0 ≤ (σ r_Md_laws) ((σ r_Md_live) 0) ∧ (σ r_Md_laws) ((σ r_Md_live) 0) ≤ 8 := by have q := h.1.2.2.2.2.2.2.2.2.2.1.1; have q2 := h.1.2.2.2.2.2.2.2.2.2.2.1; have q3 := h.2.2.2.2.2.2.2.2.2.1; exact ⟨by omega, by omega⟩
  have mld : ∀ i, 0 ≤ i → i < (σ r_Md_laws) ((σ r_Md_live) 0) → (0 ≤ (σ r_Md_lawLength) (8 * (σ r_Md_live) 0 + i) ∧ (σ r_Md_lawLength) (8 * (σ r_Md_live) 0 + i) ≤ D) ∧ (1 ≤ (σ r_Md_lawLength) (8 * (σ r_Md_live) 0 + i) → 0 < n) := fun i a b => eL_e h.2.2.2.2.2.2.2.2.2.2 i a (by have q := h.2.2.2.2.2.2.2.2.2.1; omega)
  have hmm := h.2.2.2.2.2.2.2.2.2.1
  have btp := h.2.2.2.1
  have bL := h.2.2.2.2.2.2.2.2.2.2
  have bH := h.2.2.2.2.2.2.2.1
  refine ct_mono (ct_X11_count σ n D p LW (σ r_Md_leads) y1 h.1.1 g1 h.2.1.2.2.2.2.2.2.2.2.2.2.2.2.2.1 h.1.2.2.2.2.2.2.2.2.2.2.1 h.1.2.2.2.2.2.2.2.2.2.2.2.2.2.2.2.1 h.1.2.2.2.2.2.2.2.2.2.1 h.1.2.2.2.2.2.2.2.2.2.2.2.2.2.2.2.2.1 hLd) ?_
  rintro _ _ ⟨f_Nought0_row, f_Nought0_reduced, f_Nought0_leading, f_Nought0_forms, f_Nought0_formStart, f_Nought0_sizes, v_Nought0_reached, rr1, rfl, rfl, c1, c2⟩
  refine fn_mono (ct_X12_count _ n D p y1 h.2.2.1.1 g1 mlm h.2.2.1.2.2.2.2.2.2.2.2.2.2.2.2.2.2.2.1 h.2.2.1.2.2.2.2.2.2.2.2.2.2.2.2.2.2.2.2.2.2.2.1.2.2 h.2.2.1.2.2.2.2.2.2.2.2.2.2.2.2.2.2.2.2.2.2.1) ?_
  refine ⟨ans ?_, n, D, p, LW, ⟨⟨h.1.1, h.1.2.1, h.1.2.2.1, h.1.2.2.2.1, h.1.2.2.2.2.1, h.1.2.2.2.2.2.1, h.1.2.2.2.2.2.2.1, h.1.2.2.2.2.2.2.2.1, h.1.2.2.2.2.2.2.2.2.1, h.1.2.2.2.2.2.2.2.2.2.1, h.1.2.2.2.2.2.2.2.2.2.2.1, h.1.2.2.2.2.2.2.2.2.2.2.2.1, h.1.2.2.2.2.2.2.2.2.2.2.2.2.1, h.1.2.2.2.2.2.2.2.2.2.2.2.2.2.1, h.1.2.2.2.2.2.2.2.2.2.2.2.2.2.2.1, c2, h.1.2.2.2.2.2.2.2.2.2.2.2.2.2.2.2.2.1, h.1.2.2.2.2.2.2.2.2.2.2.2.2.2.2.2.2.2.1, h.1.2.2.2.2.2.2.2.2.2.2.2.2.2.2.2.2.2.2⟩, ⟨h.2.1.1, h.2.1.2.1, h.2.1.2.2.1, h.2.1.2.2.2.1, h.2.1.2.2.2.2.1, h.2.1.2.2.2.2.2.1, h.2.1.2.2.2.2.2.2.1, h.2.1.2.2.2.2.2.2.2.1, h.2.1.2.2.2.2.2.2.2.2.1, h.2.1.2.2.2.2.2.2.2.2.2.1, h.2.1.2.2.2.2.2.2.2.2.2.2.1, h.2.1.2.2.2.2.2.2.2.2.2.2.2.1, h.2.1.2.2.2.2.2.2.2.2.2.2.2.2.1, h.2.1.2.2.2.2.2.2.2.2.2.2.2.2.2.1, h.2.1.2.2.2.2.2.2.2.2.2.2.2.2.2.2⟩, ⟨h.2.2.1.1, h.2.2.1.2.1, h.2.2.1.2.2.1, h.2.2.1.2.2.2.1, h.2.2.1.2.2.2.2.1, h.2.2.1.2.2.2.2.2.1, h.2.2.1.2.2.2.2.2.2.1, h.2.2.1.2.2.2.2.2.2.2.1, h.2.2.1.2.2.2.2.2.2.2.2.1, h.2.2.1.2.2.2.2.2.2.2.2.2.1, h.2.2.1.2.2.2.2.2.2.2.2.2.2.1, h.2.2.1.2.2.2.2.2.2.2.2.2.2.2.1, h.2.2.1.2.2.2.2.2.2.2.2.2.2.2.2.1, h.2.2.1.2.2.2.2.2.2.2.2.2.2.2.2.2.1, h.2.2.1.2.2.2.2.2.2.2.2.2.2.2.2.2.2.1, h.2.2.1.2.2.2.2.2.2.2.2.2.2.2.2.2.2.2.1, h.2.2.1.2.2.2.2.2.2.2.2.2.2.2.2.2.2.2.2.1, h.2.2.1.2.2.2.2.2.2.2.2.2.2.2.2.2.2.2.2.2.1, h.2.2.1.2.2.2.2.2.2.2.2.2.2.2.2.2.2.2.2.2.2.1, h.2.2.1.2.2.2.2.2.2.2.2.2.2.2.2.2.2.2.2.2.2.2.1, h.2.2.1.2.2.2.2.2.2.2.2.2.2.2.2.2.2.2.2.2.2.2.2⟩, ⟨h.2.2.2.1, h.2.2.2.2.1, h.2.2.2.2.2.1, h.2.2.2.2.2.2.1, h.2.2.2.2.2.2.2.1, h.2.2.2.2.2.2.2.2.1, h.2.2.2.2.2.2.2.2.2.1, h.2.2.2.2.2.2.2.2.2.2⟩⟩⟩
  show rr1 = (if y1 = 0 then p else if y1 = 1 then n else if y1 = 2 then D else if y1 = 3 then ((σ r_Md_laws) ((σ r_Md_live) 0)) else if y1 = 4 then sm (fun k => if (σ r_Md_lawLength) (8 * (σ r_Md_live) 0 + k) = 0 then 1 else 0) ((σ r_Md_laws) ((σ r_Md_live) 0)).toNat else if y1 = 5 then (σ r_Md_taped) 0 else if y1 = 6 then (σ r_Md_isHeld) 0 + (σ r_Md_isHeld) 1 + (σ r_Md_isHeld) 2 else if y1 = 7 then sm (fun d => cB ((σ r_Md_leads)) n D (d + 1)) (D).toNat else if 0 ≤ y1 - 10 ∧ y1 - 10 ≤ ((σ r_Md_laws) ((σ r_Md_live) 0)) - 1 then (σ r_Md_lawLength) (8 * (σ r_Md_live) 0 + y1 - 10) else -1)
  rw [c1]
  by_cases q0 : y1 = 0
  · rw [if_pos q0, if_pos q0]
  rw [if_neg q0, if_neg q0]
  by_cases q1 : y1 = 1
  · rw [if_pos q1, if_pos q1]
  rw [if_neg q1, if_neg q1]
  by_cases q2 : y1 = 2
  · rw [if_pos q2, if_pos q2]
  rw [if_neg q2, if_neg q2]
  by_cases q3 : y1 = 3
  · rw [if_pos q3, if_pos q3]
    exact hmm
  rw [if_neg q3, if_neg q3]
  by_cases q4 : y1 = 4
  · rw [if_pos q4, if_pos q4, ← hmm]
    exact sm_ext _ (fun j a b => by rw [(bL j a (by omega)).1])
  rw [if_neg q4, if_neg q4]
  by_cases q5 : y1 = 5
  · rw [if_pos q5, if_pos q5]
    exact btp
  rw [if_neg q5, if_neg q5]
  by_cases q6 : y1 = 6
  · rw [if_pos q6, if_pos q6, (bH 0 (by omega) (by omega)).1, (bH 1 (by omega) (by omega)).1, (bH 2 (by omega) (by omega)).1]
  rw [if_neg q6, if_neg q6]
  by_cases q7 : y1 = 7
  · rw [if_pos q7, if_pos q7]
    exact cB_sh hO
  rw [if_neg q7, if_neg q7]
  by_cases q8 : 10 ≤ y1 ∧ y1 - 10 < (σ r_Nought0_lawsNow) 0
  · rw [if_pos q8, if_pos (by omega), (bL (y1 - 10) (by omega) q8.2).1]
    show (σ r_Md_lawLength) (8 * (σ r_Md_live) 0 + (y1 - 10)) = (σ r_Md_lawLength) (8 * (σ r_Md_live) 0 + y1 - 10)
    rw [show 8 * (σ r_Md_live) 0 + (y1 - 10) = 8 * (σ r_Md_live) 0 + y1 - 10 by omega]
  · rw [if_neg q8, if_neg (by omega)]
