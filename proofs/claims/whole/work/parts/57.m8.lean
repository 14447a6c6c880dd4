/-! contracts of methods, walked (written by wip/whole/walk.py from the annotations ann_m8) -/
theorem ct_X12_longest_Md_first (σ : en_m) (n : Int) (D : Int) (p : Int) (hI : mI σ n D p) (hfi : R97 ((σ r_Md_first))) : en_fn z_X12_longest [.inr (.inr (r_Md, 0)), .inr (.inr (r_Md_first, 0))] σ (.inl (if sG (fun k => (σ r_Md_first) k) (sS n D (D + 1)).toNat < 0 then -1 else sL n D (sG (fun k => (σ r_Md_first) k) (sS n D (D + 1)).toNat))) := by
  show en_wp k_X12_longest 0 [some (.inr (.inr (r_Md, 0))), some (.inr (.inr (r_Md_first, 0))), none, none] [] (srl σ []) (fun r σ' => r = some (.inl (if sG (fun k => (σ r_Md_first) k) (sS n D (D + 1)).toNat < 0 then -1 else sL n D (sG (fun k => (σ r_Md_first) k) (sS n D (D + 1)).toNat))) ∧ σ' = σ)
  have hI2 := hI
  obtain ⟨hO, hL, hn, hD, hp, hpw, hst⟩ := hI2
  obtain ⟨⟨hO1, hO2⟩, ⟨hO3, hO4⟩, hO5, hO6, hO7, hO8⟩ := id hO
  have hAb := sS_b (k := D + 1) hO
  have L_4 : ∀ (N : Nat) (c : Int) (k : Int), (0 ≤ k ∧ k ≤ sS n D (D + 1)) → (c = sG (fun k => σ r_Md_first k) k.toNat) → (sS n D (D + 1) - k).toNat < N → en_wp k_X12_longest 4 [some (.inr (.inr (r_Md, 0))), some (.inr (.inr (r_Md_first, 0))), some (.inl c), some (.inl k)] [] (srl σ []) (fun r σ' => r = some (.inl (if sG (fun k => (σ r_Md_first) k) (sS n D (D + 1)).toNat < 0 then -1 else sL n D (sG (fun k => (σ r_Md_first) k) (sS n D (D + 1)).toNat))) ∧ σ' = σ) := by
    intro N
    induction N with
    | zero => intro c k; intros; omega
    | succ N ih_4 =>
      intro c k hk hc hN_4
      refine wp_run 2 (pc' := 6) (ls' := [some (.inr (.inr (r_Md, 0))), some (.inr (.inr (r_Md_first, 0))), some (.inl c), some (.inl k)]) (st' := [.inr (.inr (r_Md, 0)), .inl k]) (σ' := srl σ []) rfl ?_
      refine wp_fnv (v := .inl (sS n D (D + 1))) rfl rfl rfl rfl (ct_X12_all σ n D p hI) ?_
      show en_wp k_X12_longest 9 [some (.inr (.inr (r_Md, 0))), some (.inr (.inr (r_Md_first, 0))), some (.inl c), some (.inl k)] [.inl (sS n D (D + 1)), .inl k] (srl σ []) _
      have q_1 : 0 ≤ sS n D (D + 1) ∧ sS n D (D + 1) ≤ 364 := sS_b hO
      refine wp_ic_ge rfl (by omega) (by omega) (fun h_2 => ?_) (fun h_2 => ?_)
      · have hkA : k = sS n D (D + 1) := by omega
        rw [hkA] at hc
        have hcb := sG_bb (f := (fun k => σ r_Md_first k)) hO
        rw [← hc] at hcb
        show en_wp k_X12_longest 26 [some (.inr (.inr (r_Md, 0))), some (.inr (.inr (r_Md_first, 0))), some (.inl c), some (.inl k)] [] (srl σ []) _
        refine wp_run 1 (pc' := 27) (ls' := [some (.inr (.inr (r_Md, 0))), some (.inr (.inr (r_Md_first, 0))), some (.inl c), some (.inl k)]) (st' := [.inl c]) (σ' := srl σ []) rfl ?_
        refine wp_if_ge rfl (by omega) (fun h_3 => ?_) (fun h_3 => ?_)
        · show en_wp k_X12_longest 34 [some (.inr (.inr (r_Md, 0))), some (.inr (.inr (r_Md_first, 0))), some (.inl c), some (.inl k)] [] (srl σ []) _
          refine wp_run 2 (pc' := 36) (ls' := [some (.inr (.inr (r_Md, 0))), some (.inr (.inr (r_Md_first, 0))), some (.inl c), some (.inl k)]) (st' := [.inl c, .inr (.inr (r_Md, 0))]) (σ' := srl σ []) rfl ?_
          refine wp_fnv (v := .inl (sL n D c)) rfl rfl rfl rfl (ct_X12_lengthAt σ n D p c hI (by omega)) ?_
          show en_wp k_X12_longest 39 [some (.inr (.inr (r_Md, 0))), some (.inr (.inr (r_Md_first, 0))), some (.inl c), some (.inl k)] [.inl (sL n D c)] (srl σ []) _
          have q_4 : 0 ≤ sL n D c ∧ sL n D c ≤ 7 := sL_b _ _ _
          exact wp_iret rfl ⟨(by rw [← hc]; first | rw [if_pos (by omega)] | rw [if_neg (by omega)]), rfl⟩
        · show en_wp k_X12_longest 30 [some (.inr (.inr (r_Md, 0))), some (.inr (.inr (r_Md_first, 0))), some (.inl c), some (.inl k)] [] (srl σ []) _
          refine wp_run 2 (pc' := 39) (ls' := [some (.inr (.inr (r_Md, 0))), some (.inr (.inr (r_Md_first, 0))), some (.inl c), some (.inl k)]) (st' := [.inl (-1)]) (σ' := srl σ []) rfl ?_
          exact wp_iret rfl ⟨(by rw [← hc]; first | rw [if_pos (by omega)] | rw [if_neg (by omega)]), rfl⟩
      · show en_wp k_X12_longest 12 [some (.inr (.inr (r_Md, 0))), some (.inr (.inr (r_Md_first, 0))), some (.inl c), some (.inl k)] [] (srl σ []) _
        refine wp_run 2 (pc' := 14) (ls' := [some (.inr (.inr (r_Md, 0))), some (.inr (.inr (r_Md_first, 0))), some (.inl c), some (.inl k)]) (st' := [.inl k, .inr (.inr (r_Md_first, 0))]) (σ' := srl σ []) rfl ?_
        refine wp_iald0 rfl rfl (by omega) ?_
        show en_wp k_X12_longest 15 [some (.inr (.inr (r_Md, 0))), some (.inr (.inr (r_Md_first, 0))), some (.inl c), some (.inl k)] [.inl (σ r_Md_first k)] (srl σ []) _
        have hx := hfi k
        refine wp_if_eq rfl (by omega) (fun h_5 => ?_) (fun h_5 => ?_)
        · show en_wp k_X12_longest 20 [some (.inr (.inr (r_Md, 0))), some (.inr (.inr (r_Md_first, 0))), some (.inl c), some (.inl k)] [] (srl σ []) _
          refine wp_run 2 (pc' := 4) (ls' := [some (.inr (.inr (r_Md, 0))), some (.inr (.inr (r_Md_first, 0))), some (.inl c), some (.inl (k + 1))]) (st' := []) (σ' := srl σ []) rfl ?_
          exact ih_4 c (k + 1) (by omega) (by rw [sG_s _ hk.1]; first | rw [if_pos (by assumption)]; exact hc | rw [if_neg (by assumption)]) (by omega)
        · show en_wp k_X12_longest 18 [some (.inr (.inr (r_Md, 0))), some (.inr (.inr (r_Md_first, 0))), some (.inl c), some (.inl k)] [] (srl σ []) _
          refine wp_run 4 (pc' := 4) (ls' := [some (.inr (.inr (r_Md, 0))), some (.inr (.inr (r_Md_first, 0))), some (.inl k), some (.inl (k + 1))]) (st' := []) (σ' := srl σ []) rfl ?_
          exact ih_4 k (k + 1) (by omega) (by rw [sG_s _ hk.1]; first | rw [if_pos (by assumption)]; exact hc | rw [if_neg (by assumption)]) (by omega)
  refine wp_run 4 (pc' := 4) (ls' := [some (.inr (.inr (r_Md, 0))), some (.inr (.inr (r_Md_first, 0))), some (.inl (-1)), some (.inl 0)]) (st' := []) (σ' := srl σ []) rfl ?_
  exact L_4 _ (-1) 0 (by omega) rfl (Nat.lt_succ_self _)
theorem ct_X12_longest_Md_then (σ : en_m) (n : Int) (D : Int) (p : Int) (hI : mI σ n D p) (hfi : R97 ((σ r_Md_then))) : en_fn z_X12_longest [.inr (.inr (r_Md, 0)), .inr (.inr (r_Md_then, 0))] σ (.inl (if sG (fun k => (σ r_Md_then) k) (sS n D (D + 1)).toNat < 0 then -1 else sL n D (sG (fun k => (σ r_Md_then) k) (sS n D (D + 1)).toNat))) := by
  show en_wp k_X12_longest 0 [some (.inr (.inr (r_Md, 0))), some (.inr (.inr (r_Md_then, 0))), none, none] [] (srl σ []) (fun r σ' => r = some (.inl (if sG (fun k => (σ r_Md_then) k) (sS n D (D + 1)).toNat < 0 then -1 else sL n D (sG (fun k => (σ r_Md_then) k) (sS n D (D + 1)).toNat))) ∧ σ' = σ)
  have hI2 := hI
  obtain ⟨hO, hL, hn, hD, hp, hpw, hst⟩ := hI2
  obtain ⟨⟨hO1, hO2⟩, ⟨hO3, hO4⟩, hO5, hO6, hO7, hO8⟩ := id hO
  have hAb := sS_b (k := D + 1) hO
  have L_4 : ∀ (N : Nat) (c : Int) (k : Int), (0 ≤ k ∧ k ≤ sS n D (D + 1)) → (c = sG (fun k => σ r_Md_then k) k.toNat) → (sS n D (D + 1) - k).toNat < N → en_wp k_X12_longest 4 [some (.inr (.inr (r_Md, 0))), some (.inr (.inr (r_Md_then, 0))), some (.inl c), some (.inl k)] [] (srl σ []) (fun r σ' => r = some (.inl (if sG (fun k => (σ r_Md_then) k) (sS n D (D + 1)).toNat < 0 then -1 else sL n D (sG (fun k => (σ r_Md_then) k) (sS n D (D + 1)).toNat))) ∧ σ' = σ) := by
    intro N
    induction N with
    | zero => intro c k; intros; omega
    | succ N ih_4 =>
      intro c k hk hc hN_4
      refine wp_run 2 (pc' := 6) (ls' := [some (.inr (.inr (r_Md, 0))), some (.inr (.inr (r_Md_then, 0))), some (.inl c), some (.inl k)]) (st' := [.inr (.inr (r_Md, 0)), .inl k]) (σ' := srl σ []) rfl ?_
      refine wp_fnv (v := .inl (sS n D (D + 1))) rfl rfl rfl rfl (ct_X12_all σ n D p hI) ?_
      show en_wp k_X12_longest 9 [some (.inr (.inr (r_Md, 0))), some (.inr (.inr (r_Md_then, 0))), some (.inl c), some (.inl k)] [.inl (sS n D (D + 1)), .inl k] (srl σ []) _
      have q_1 : 0 ≤ sS n D (D + 1) ∧ sS n D (D + 1) ≤ 364 := sS_b hO
      refine wp_ic_ge rfl (by omega) (by omega) (fun h_2 => ?_) (fun h_2 => ?_)
      · have hkA : k = sS n D (D + 1) := by omega
        rw [hkA] at hc
        have hcb := sG_bb (f := (fun k => σ r_Md_then k)) hO
        rw [← hc] at hcb
        show en_wp k_X12_longest 26 [some (.inr (.inr (r_Md, 0))), some (.inr (.inr (r_Md_then, 0))), some (.inl c), some (.inl k)] [] (srl σ []) _
        refine wp_run 1 (pc' := 27) (ls' := [some (.inr (.inr (r_Md, 0))), some (.inr (.inr (r_Md_then, 0))), some (.inl c), some (.inl k)]) (st' := [.inl c]) (σ' := srl σ []) rfl ?_
        refine wp_if_ge rfl (by omega) (fun h_3 => ?_) (fun h_3 => ?_)
        · show en_wp k_X12_longest 34 [some (.inr (.inr (r_Md, 0))), some (.inr (.inr (r_Md_then, 0))), some (.inl c), some (.inl k)] [] (srl σ []) _
          refine wp_run 2 (pc' := 36) (ls' := [some (.inr (.inr (r_Md, 0))), some (.inr (.inr (r_Md_then, 0))), some (.inl c), some (.inl k)]) (st' := [.inl c, .inr (.inr (r_Md, 0))]) (σ' := srl σ []) rfl ?_
          refine wp_fnv (v := .inl (sL n D c)) rfl rfl rfl rfl (ct_X12_lengthAt σ n D p c hI (by omega)) ?_
          show en_wp k_X12_longest 39 [some (.inr (.inr (r_Md, 0))), some (.inr (.inr (r_Md_then, 0))), some (.inl c), some (.inl k)] [.inl (sL n D c)] (srl σ []) _
          have q_4 : 0 ≤ sL n D c ∧ sL n D c ≤ 7 := sL_b _ _ _
          exact wp_iret rfl ⟨(by rw [← hc]; first | rw [if_pos (by omega)] | rw [if_neg (by omega)]), rfl⟩
        · show en_wp k_X12_longest 30 [some (.inr (.inr (r_Md, 0))), some (.inr (.inr (r_Md_then, 0))), some (.inl c), some (.inl k)] [] (srl σ []) _
          refine wp_run 2 (pc' := 39) (ls' := [some (.inr (.inr (r_Md, 0))), some (.inr (.inr (r_Md_then, 0))), some (.inl c), some (.inl k)]) (st' := [.inl (-1)]) (σ' := srl σ []) rfl ?_
          exact wp_iret rfl ⟨(by rw [← hc]; first | rw [if_pos (by omega)] | rw [if_neg (by omega)]), rfl⟩
      · show en_wp k_X12_longest 12 [some (.inr (.inr (r_Md, 0))), some (.inr (.inr (r_Md_then, 0))), some (.inl c), some (.inl k)] [] (srl σ []) _
        refine wp_run 2 (pc' := 14) (ls' := [some (.inr (.inr (r_Md, 0))), some (.inr (.inr (r_Md_then, 0))), some (.inl c), some (.inl k)]) (st' := [.inl k, .inr (.inr (r_Md_then, 0))]) (σ' := srl σ []) rfl ?_
        refine wp_iald0 rfl rfl (by omega) ?_
        show en_wp k_X12_longest 15 [some (.inr (.inr (r_Md, 0))), some (.inr (.inr (r_Md_then, 0))), some (.inl c), some (.inl k)] [.inl (σ r_Md_then k)] (srl σ []) _
        have hx := hfi k
        refine wp_if_eq rfl (by omega) (fun h_5 => ?_) (fun h_5 => ?_)
        · show en_wp k_X12_longest 20 [some (.inr (.inr (r_Md, 0))), some (.inr (.inr (r_Md_then, 0))), some (.inl c), some (.inl k)] [] (srl σ []) _
          refine wp_run 2 (pc' := 4) (ls' := [some (.inr (.inr (r_Md, 0))), some (.inr (.inr (r_Md_then, 0))), some (.inl c), some (.inl (k + 1))]) (st' := []) (σ' := srl σ []) rfl ?_
          exact ih_4 c (k + 1) (by omega) (by rw [sG_s _ hk.1]; first | rw [if_pos (by assumption)]; exact hc | rw [if_neg (by assumption)]) (by omega)
        · show en_wp k_X12_longest 18 [some (.inr (.inr (r_Md, 0))), some (.inr (.inr (r_Md_then, 0))), some (.inl c), some (.inl k)] [] (srl σ []) _
          refine wp_run 4 (pc' := 4) (ls' := [some (.inr (.inr (r_Md, 0))), some (.inr (.inr (r_Md_then, 0))), some (.inl k), some (.inl (k + 1))]) (st' := []) (σ' := srl σ []) rfl ?_
          exact ih_4 k (k + 1) (by omega) (by rw [sG_s _ hk.1]; first | rw [if_pos (by assumption)]; exact hc | rw [if_neg (by assumption)]) (by omega)
  refine wp_run 4 (pc' := 4) (ls' := [some (.inr (.inr (r_Md, 0))), some (.inr (.inr (r_Md_then, 0))), some (.inl (-1)), some (.inl 0)]) (st' := []) (σ' := srl σ []) rfl ?_
  exact L_4 _ (-1) 0 (by omega) rfl (Nat.lt_succ_self _)
theorem ct_X12_plain (σ : en_m) (n : Int) (D : Int) (p : Int) (LW : Int → (Int → Int) → Prop) (e : Int) (hI : mI σ n D p) (h1 : i32 e) (hE : R97 ((σ r_Md_element))) (heo : ∀ e x, (0 ≤ e ∧ e ≤ 5) → (0 ≤ x ∧ x < sS n D (D + 1)) → (σ r_Md_element) (400 * e + x) < p) (hrow : R97 ((σ r_Md_row))) (hna : mNall ((σ r_Md_rowStart)) ((σ r_Md_rows)) ((σ r_Md_leads)) ((σ r_Md_sizes)) n D p LW) : en_ct z_X12_plain [.inr (.inr (r_Md, 0)), .inl e] σ (fun r σ' => ∃ (f_Md_row : Int → Int), ∃ (f_Md_element : Int → Int), ∃ (rr : Int), r = some (.inl rr) ∧ σ' = srl σ [(r_Md_row, f_Md_row), (r_Md_element, f_Md_element)] ∧ (if (0 ≤ e ∧ e ≤ 5) then nfR n D p LW (fun x => (σ r_Md_element) (400 * e + x)) (fun x => f_Md_element (400 * e + x)) ∧ (∀ x, (x < 400 * e ∨ 400 * e + sS n D (D + 1) ≤ x) → f_Md_element x = (σ r_Md_element) x) ∧ (∀ x, 0 ≤ x → x < sS n D (D + 1) → f_Md_element (400 * e + x) < p) ∧ rr = sC (fun k => f_Md_element (400 * e + k)) (sS n D (D + 1)).toNat else f_Md_element = (σ r_Md_element) ∧ rr = -1) ∧ (R97 f_Md_row) ∧ (R97 f_Md_element)) := by
  show en_wp k_X12_plain 0 [some (.inr (.inr (r_Md, 0))), some (.inl e)] [] (srl σ []) (fun r σ' => ∃ (f_Md_row : Int → Int), ∃ (f_Md_element : Int → Int), ∃ (rr : Int), r = some (.inl rr) ∧ σ' = srl σ [(r_Md_row, f_Md_row), (r_Md_element, f_Md_element)] ∧ (if (0 ≤ e ∧ e ≤ 5) then nfR n D p LW (fun x => (σ r_Md_element) (400 * e + x)) (fun x => f_Md_element (400 * e + x)) ∧ (∀ x, (x < 400 * e ∨ 400 * e + sS n D (D + 1) ≤ x) → f_Md_element x = (σ r_Md_element) x) ∧ (∀ x, 0 ≤ x → x < sS n D (D + 1) → f_Md_element (400 * e + x) < p) ∧ rr = sC (fun k => f_Md_element (400 * e + k)) (sS n D (D + 1)).toNat else f_Md_element = (σ r_Md_element) ∧ rr = -1) ∧ (R97 f_Md_row) ∧ (R97 f_Md_element))
  have hI2 := hI
  obtain ⟨hO, hL, hn, hD, hp, hpw, hst⟩ := hI2
  obtain ⟨⟨hO1, hO2⟩, ⟨hO3, hO4⟩, hO5, hO6, hO7, hO8⟩ := id hO
  refine wp_run 1 (pc' := 1) (ls' := [some (.inr (.inr (r_Md, 0))), some (.inl e)]) (st' := [.inl e]) (σ' := srl σ []) rfl ?_
  refine wp_fns (v := .inl (bI (0 ≤ e ∧ e ≤ 5))) rfl rfl rfl rfl rfl (ct_X12_isElement σ e (by omega)) ?_
  show en_wp k_X12_plain 4 [some (.inr (.inr (r_Md, 0))), some (.inl e)] [.inl (bI (0 ≤ e ∧ e ≤ 5))] (srl σ []) _
  refine wp_if_neb rfl (fun h_1 => ?_) (fun h_1 => ?_)
  · show en_wp k_X12_plain 9 [some (.inr (.inr (r_Md, 0))), some (.inl e)] [] (srl σ []) _
    refine wp_run 6 (pc' := 19) (ls' := [some (.inr (.inr (r_Md, 0))), some (.inl e)]) (st' := [.inl (400 * e), .inr (.inr (r_Md_element, 0)), .inr (.inr (r_Md, 0))]) (σ' := srl σ []) rfl ?_
    refine wp_callv rfl rfl rfl rfl (ct_X12_plains_Md_element σ n D p LW (400 * e) hI (by omega) hE (fun x h8 h9 => heo e x (by omega) ⟨h8, h9⟩) hrow hna) ?_
    rintro _ _ ⟨f_2, f_3, rfl, rfl, p_4, p_5, p_6, p_7, p_8⟩
    have p_4 : nfR n D p LW (fun x => (σ r_Md_element) ((400 * e) + x)) (fun x => f_3 ((400 * e) + x)) := p_4
    have p_5 : ∀ x, (x < (400 * e) ∨ (400 * e) + sS n D (D + 1) ≤ x) → f_3 x = (σ r_Md_element) x := p_5
    have p_6 : R97 f_2 := p_6
    have p_7 : R97 f_3 := p_7
    have p_8 : ∀ x, 0 ≤ x → x < sS n D (D + 1) → f_3 ((400 * e) + x) < p := p_8
    show en_wp k_X12_plain 22 [some (.inr (.inr (r_Md, 0))), some (.inl e)] [] (srl σ [(r_Md_row, f_2), (r_Md_element, f_3)]) _
    have kp := (⟨p_4, p_5, p_6, p_7, p_8⟩ : _ ∧ _ ∧ _ ∧ _ ∧ _)
    refine wp_run 2 (pc' := 24) (ls' := [some (.inr (.inr (r_Md, 0))), some (.inl e)]) (st' := [.inl e, .inr (.inr (r_Md, 0))]) (σ' := srl σ [(r_Md_row, f_2), (r_Md_element, f_3)]) rfl ?_
    refine wp_fnv (v := .inl (sC (fun k => f_3 (400 * e + k)) (sS n D (D + 1)).toNat)) rfl rfl rfl rfl (ct_X12_manyOf (srl σ [(r_Md_row, f_2), (r_Md_element, f_3)]) n D p e hI kp.2.2.2.1 (by omega)) ?_
    show en_wp k_X12_plain 27 [some (.inr (.inr (r_Md, 0))), some (.inl e)] [.inl (sC (fun k => f_3 (400 * e + k)) (sS n D (D + 1)).toNat)] (srl σ [(r_Md_row, f_2), (r_Md_element, f_3)]) _
    exact wp_iret rfl ⟨f_2, f_3, (sC (fun k => f_3 (400 * e + k)) (sS n D (D + 1)).toNat), rfl, srl_eq (l' := [(r_Md_row, f_2), (r_Md_element, f_3)]) (And.intro rfl (And.intro rfl trivial)) (And.intro rfl (And.intro rfl trivial)), ⟨by rw [if_pos (by omega)]; exact ⟨kp.1, kp.2.1, kp.2.2.2.2, rfl⟩, kp.2.2.1, kp.2.2.2.1⟩⟩
  · show en_wp k_X12_plain 7 [some (.inr (.inr (r_Md, 0))), some (.inl e)] [] (srl σ []) _
    refine wp_run 1 (pc' := 8) (ls' := [some (.inr (.inr (r_Md, 0))), some (.inl e)]) (st' := [.inl (-1)]) (σ' := srl σ []) rfl ?_
    exact wp_iret rfl ⟨(σ r_Md_row), (σ r_Md_element), (-1), rfl, srl_eq (l' := [(r_Md_row, σ r_Md_row), (r_Md_element, σ r_Md_element)]) trivial (And.intro rfl (And.intro rfl trivial)), ⟨by rw [if_neg (by omega)]; exact ⟨rfl, rfl⟩, hrow, hE⟩⟩
theorem ct_X12_alike (σ : en_m) (n : Int) (D : Int) (p : Int) (LW : Int → (Int → Int) → Prop) (a : Int) (b : Int) (hI : mI σ n D p) (h1 : i32 a) (h2 : i32 b) (hE : R97 ((σ r_Md_element))) (hfi : R97 ((σ r_Md_first))) (hrow : R97 ((σ r_Md_row))) (hna : mNall ((σ r_Md_rowStart)) ((σ r_Md_rows)) ((σ r_Md_leads)) ((σ r_Md_sizes)) n D p LW) : en_ct z_X12_alike [.inr (.inr (r_Md, 0)), .inl a, .inl b] σ (fun r σ' => ∃ (f_Md_row : Int → Int), ∃ (f_Md_first : Int → Int), ∃ (rr : Int), r = some (.inl rr) ∧ σ' = srl σ [(r_Md_row, f_Md_row), (r_Md_first, f_Md_first)] ∧ (if (0 ≤ a ∧ a ≤ 5) ∧ 0 ≤ b ∧ b ≤ 5 then ∃ X, nfR n D p LW (fun x => ((σ r_Md_element) (400 * a + x) - (σ r_Md_element) (400 * b + x)) % p) X ∧ ((rr = 1 ∧ ∀ x, 0 ≤ x → x < sS n D (D + 1) → X x = 0) ∨ (rr = 0 ∧ ∃ x, 0 ≤ x ∧ x < sS n D (D + 1) ∧ ¬ X x = 0)) else rr = -1) ∧ (R97 f_Md_row) ∧ (R97 f_Md_first)) := by
  show en_wp k_X12_alike 0 [some (.inr (.inr (r_Md, 0))), some (.inl a), some (.inl b), none] [] (srl σ []) (fun r σ' => ∃ (f_Md_row : Int → Int), ∃ (f_Md_first : Int → Int), ∃ (rr : Int), r = some (.inl rr) ∧ σ' = srl σ [(r_Md_row, f_Md_row), (r_Md_first, f_Md_first)] ∧ (if (0 ≤ a ∧ a ≤ 5) ∧ 0 ≤ b ∧ b ≤ 5 then ∃ X, nfR n D p LW (fun x => ((σ r_Md_element) (400 * a + x) - (σ r_Md_element) (400 * b + x)) % p) X ∧ ((rr = 1 ∧ ∀ x, 0 ≤ x → x < sS n D (D + 1) → X x = 0) ∨ (rr = 0 ∧ ∃ x, 0 ≤ x ∧ x < sS n D (D + 1) ∧ ¬ X x = 0)) else rr = -1) ∧ (R97 f_Md_row) ∧ (R97 f_Md_first))
  have hI2 := hI
  obtain ⟨hO, hL, hn, hD, hp, hpw, hst⟩ := hI2
  obtain ⟨⟨hO1, hO2⟩, ⟨hO3, hO4⟩, hO5, hO6, hO7, hO8⟩ := id hO
  have hAb := sS_b (k := D + 1) hO
  have L_18 : ∀ (N : Nat) (k : Int) (X : Int → Int), ((0 ≤ a ∧ a ≤ 5) ∧ 0 ≤ b ∧ b ≤ 5) → (0 ≤ k ∧ k ≤ sS n D (D + 1)) → (X = seg (σ r_Md_first) 0 k (fun x => (σ r_Md_element (400 * a + x) - σ r_Md_element (400 * b + x)) % p)) → (sS n D (D + 1) - k).toNat < N → en_wp k_X12_alike 18 [some (.inr (.inr (r_Md, 0))), some (.inl a), some (.inl b), some (.inl k)] [] (srl σ [(r_Md_first, X)]) (fun r σ' => ∃ (f_Md_row : Int → Int), ∃ (f_Md_first : Int → Int), ∃ (rr : Int), r = some (.inl rr) ∧ σ' = srl σ [(r_Md_row, f_Md_row), (r_Md_first, f_Md_first)] ∧ (if (0 ≤ a ∧ a ≤ 5) ∧ 0 ≤ b ∧ b ≤ 5 then ∃ X, nfR n D p LW (fun x => ((σ r_Md_element) (400 * a + x) - (σ r_Md_element) (400 * b + x)) % p) X ∧ ((rr = 1 ∧ ∀ x, 0 ≤ x → x < sS n D (D + 1) → X x = 0) ∨ (rr = 0 ∧ ∃ x, 0 ≤ x ∧ x < sS n D (D + 1) ∧ ¬ X x = 0)) else rr = -1) ∧ (R97 f_Md_row) ∧ (R97 f_Md_first)) := by
    intro N
    induction N with
    | zero => intro k X; intros; omega
    | succ N ih_18 =>
      intro k X hab hk hX hN_18
      refine wp_run 2 (pc' := 20) (ls' := [some (.inr (.inr (r_Md, 0))), some (.inl a), some (.inl b), some (.inl k)]) (st' := [.inr (.inr (r_Md, 0)), .inl k]) (σ' := srl σ [(r_Md_first, X)]) rfl ?_
      refine wp_fnv (v := .inl (sS n D (D + 1))) rfl rfl rfl rfl (ct_X12_all (srl σ [(r_Md_first, X)]) n D p hI) ?_
      show en_wp k_X12_alike 23 [some (.inr (.inr (r_Md, 0))), some (.inl a), some (.inl b), some (.inl k)] [.inl (sS n D (D + 1)), .inl k] (srl σ [(r_Md_first, X)]) _
      have q_1 : 0 ≤ sS n D (D + 1) ∧ sS n D (D + 1) ≤ 364 := sS_b hO
      refine wp_ic_ge rfl (by omega) (by omega) (fun h_2 => ?_) (fun h_2 => ?_)
      · show en_wp k_X12_alike 68 [some (.inr (.inr (r_Md, 0))), some (.inl a), some (.inl b), some (.inl k)] [] (srl σ [(r_Md_first, X)]) _
        refine wp_run 4 (pc' := 74) (ls' := [some (.inr (.inr (r_Md, 0))), some (.inl a), some (.inl b), some (.inl k)]) (st' := [.inl 0, .inr (.inr (r_Md_first, 0)), .inr (.inr (r_Md, 0))]) (σ' := srl σ [(r_Md_first, X)]) rfl ?_
        have hkA : k = sS n D (D + 1) := by omega
        rw [hkA] at hX
        have hX97 : R97 X := by
          rw [hX]
          exact R97_seg hfi (fun x _ _ => by have := @sR_lt p (σ r_Md_element (400 * a + x) - σ r_Md_element (400 * b + x)) hO.2.2.2; omega)
        have hXp : ∀ x, 0 ≤ x → x < sS n D (D + 1) → X (0 + x) < p := fun x h8 h9 => by
          rw [Int.zero_add, hX, seg_in0 ⟨h8, h9⟩]
          exact (@sR_lt p (σ r_Md_element (400 * a + x) - σ r_Md_element (400 * b + x)) hO.2.2.2).2
        refine wp_callv rfl rfl rfl rfl (ct_X12_plains_Md_first (srl σ [(r_Md_first, X)]) n D p LW 0 hI (by omega) hX97 hXp hrow hna) ?_
        rintro _ _ ⟨f_3, f_4, rfl, rfl, p_5, p_6, p_7, p_8, p_9⟩
        have p_5 : nfR n D p LW (fun x => X (0 + x)) (fun x => f_4 (0 + x)) := p_5
        have p_6 : ∀ x, (x < 0 ∨ 0 + sS n D (D + 1) ≤ x) → f_4 x = X x := p_6
        have p_7 : R97 f_3 := p_7
        have p_8 : R97 f_4 := p_8
        have p_9 : ∀ x, 0 ≤ x → x < sS n D (D + 1) → f_4 (0 + x) < p := p_9
        refine wp_bk (l2 := [(r_Md_first, f_4), (r_Md_row, f_3)]) rfl rfl ?_
        show en_wp k_X12_alike 77 [some (.inr (.inr (r_Md, 0))), some (.inl a), some (.inl b), some (.inl k)] [] (srl σ [(r_Md_first, f_4), (r_Md_row, f_3)]) _
        have kp := (⟨p_5, p_6, p_7, p_8, p_9⟩ : _ ∧ _ ∧ _ ∧ _ ∧ _)
        have kn := al_nf hO kp.1 hX
        refine wp_run 3 (pc' := 82) (ls' := [some (.inr (.inr (r_Md, 0))), some (.inl a), some (.inl b), some (.inl k)]) (st' := [.inr (.inr (r_Md_first, 0)), .inr (.inr (r_Md, 0))]) (σ' := srl σ [(r_Md_first, f_4), (r_Md_row, f_3)]) rfl ?_
        refine wp_fnv (v := .inl (if sG (fun k => f_4 k) (sS n D (D + 1)).toNat < 0 then -1 else sL n D (sG (fun k => f_4 k) (sS n D (D + 1)).toNat))) rfl rfl rfl rfl (ct_X12_longest_Md_first (srl σ [(r_Md_first, f_4), (r_Md_row, f_3)]) n D p hI kp.2.2.2.1) ?_
        show en_wp k_X12_alike 85 [some (.inr (.inr (r_Md, 0))), some (.inl a), some (.inl b), some (.inl k)] [.inl (if sG (fun k => f_4 k) (sS n D (D + 1)).toNat < 0 then -1 else sL n D (sG (fun k => f_4 k) (sS n D (D + 1)).toNat))] (srl σ [(r_Md_first, f_4), (r_Md_row, f_3)]) _
        have q_10 : -1 ≤ (if sG (fun k => f_4 k) (sS n D (D + 1)).toNat < 0 then -1 else sL n D (sG (fun k => f_4 k) (sS n D (D + 1)).toNat)) ∧ (if sG (fun k => f_4 k) (sS n D (D + 1)).toNat < 0 then -1 else sL n D (sG (fun k => f_4 k) (sS n D (D + 1)).toNat)) ≤ 7 := lg_b
        
        refine wp_if_ge rfl (by omega) (fun h_11 => ?_) (fun h_11 => ?_)
        · have hs0 : ¬ sG _ _ < 0 := al_nn h_11
          show en_wp k_X12_alike 92 [some (.inr (.inr (r_Md, 0))), some (.inl a), some (.inl b), some (.inl k)] [] (srl σ [(r_Md_first, f_4), (r_Md_row, f_3)]) _
          refine wp_run 1 (pc' := 93) (ls' := [some (.inr (.inr (r_Md, 0))), some (.inl a), some (.inl b), some (.inl k)]) (st' := [.inl 0]) (σ' := srl σ [(r_Md_first, f_4), (r_Md_row, f_3)]) rfl ?_
          exact wp_iret rfl ⟨f_3, f_4, 0, rfl, srl_eq (l' := [(r_Md_row, f_3), (r_Md_first, f_4)]) (And.intro rfl (And.intro rfl trivial)) (And.intro rfl (And.intro rfl trivial)), ⟨by rw [if_pos hab]; exact ⟨_, kn, by first | exact .inl ⟨rfl, fun x h8 h9 => sG_nn _ hs1 x h8 (by omega)⟩ | (obtain ⟨x, h7, h8, h9⟩ := sG_pp _ (Int.not_lt.mp hs0); exact .inr ⟨rfl, x, h7, by omega, h9⟩)⟩, kp.2.2.1, kp.2.2.2.1⟩⟩
        · have hs1 : sG _ _ < 0 := al_np h_11
          show en_wp k_X12_alike 88 [some (.inr (.inr (r_Md, 0))), some (.inl a), some (.inl b), some (.inl k)] [] (srl σ [(r_Md_first, f_4), (r_Md_row, f_3)]) _
          refine wp_run 2 (pc' := 93) (ls' := [some (.inr (.inr (r_Md, 0))), some (.inl a), some (.inl b), some (.inl k)]) (st' := [.inl 1]) (σ' := srl σ [(r_Md_first, f_4), (r_Md_row, f_3)]) rfl ?_
          exact wp_iret rfl ⟨f_3, f_4, 1, rfl, srl_eq (l' := [(r_Md_row, f_3), (r_Md_first, f_4)]) (And.intro rfl (And.intro rfl trivial)) (And.intro rfl (And.intro rfl trivial)), ⟨by rw [if_pos hab]; exact ⟨_, kn, by first | exact .inl ⟨rfl, fun x h8 h9 => sG_nn _ hs1 x h8 (by omega)⟩ | (obtain ⟨x, h7, h8, h9⟩ := sG_pp _ (Int.not_lt.mp hs0); exact .inr ⟨rfl, x, h7, by omega, h9⟩)⟩, kp.2.2.1, kp.2.2.2.1⟩⟩
      · show en_wp k_X12_alike 26 [some (.inr (.inr (r_Md, 0))), some (.inl a), some (.inl b), some (.inl k)] [] (srl σ [(r_Md_first, X)]) _
        refine wp_run 11 (pc' := 43) (ls' := [some (.inr (.inr (r_Md, 0))), some (.inl a), some (.inl b), some (.inl k)]) (st' := [.inl ((400 * a) + k), .inr (.inr (r_Md_element, 0)), .inr (.inr (r_Md, 0)), .inl k, .inr (.inr (r_Md_first, 0))]) (σ' := srl σ [(r_Md_first, X)]) rfl ?_
        refine wp_iald0 rfl rfl (by omega) ?_
        show en_wp k_X12_alike 44 [some (.inr (.inr (r_Md, 0))), some (.inl a), some (.inl b), some (.inl k)] [.inl (σ r_Md_element ((400 * a) + k)), .inr (.inr (r_Md, 0)), .inl k, .inr (.inr (r_Md_first, 0))] (srl σ [(r_Md_first, X)]) _
        refine wp_run 7 (pc' := 55) (ls' := [some (.inr (.inr (r_Md, 0))), some (.inl a), some (.inl b), some (.inl k)]) (st' := [.inl ((400 * b) + k), .inr (.inr (r_Md_element, 0)), .inl (σ r_Md_element ((400 * a) + k)), .inr (.inr (r_Md, 0)), .inl k, .inr (.inr (r_Md_first, 0))]) (σ' := srl σ [(r_Md_first, X)]) rfl ?_
        refine wp_iald0 rfl rfl (by omega) ?_
        show en_wp k_X12_alike 56 [some (.inr (.inr (r_Md, 0))), some (.inl a), some (.inl b), some (.inl k)] [.inl (σ r_Md_element ((400 * b) + k)), .inl (σ r_Md_element ((400 * a) + k)), .inr (.inr (r_Md, 0)), .inl k, .inr (.inr (r_Md_first, 0))] (srl σ [(r_Md_first, X)]) _
        refine wp_run 1 (pc' := 57) (ls' := [some (.inr (.inr (r_Md, 0))), some (.inl a), some (.inl b), some (.inl k)]) (st' := [.inl ((σ r_Md_element ((400 * a) + k)) - (σ r_Md_element ((400 * b) + k))), .inr (.inr (r_Md, 0)), .inl k, .inr (.inr (r_Md_first, 0))]) (σ' := srl σ [(r_Md_first, X)]) rfl ?_
        have he1 := hE (400 * a + k)
        have he2 := hE (400 * b + k)
        refine wp_i2l rfl (by omega) ?_
        show en_wp k_X12_alike 58 [some (.inr (.inr (r_Md, 0))), some (.inl a), some (.inl b), some (.inl k)] [.inr (.inl ((σ r_Md_element ((400 * a) + k)) - (σ r_Md_element ((400 * b) + k)))), .inr (.inr (r_Md, 0)), .inl k, .inr (.inr (r_Md_first, 0))] (srl σ [(r_Md_first, X)]) _
        refine wp_fnv (v := .inl (((σ r_Md_element ((400 * a) + k)) - (σ r_Md_element ((400 * b) + k))) % p)) rfl rfl rfl rfl (ct_X12_rest (srl σ [(r_Md_first, X)]) n D p ((σ r_Md_element ((400 * a) + k)) - (σ r_Md_element ((400 * b) + k))) hI (by omega)) ?_
        show en_wp k_X12_alike 61 [some (.inr (.inr (r_Md, 0))), some (.inl a), some (.inl b), some (.inl k)] [.inl (((σ r_Md_element ((400 * a) + k)) - (σ r_Md_element ((400 * b) + k))) % p), .inl k, .inr (.inr (r_Md_first, 0))] (srl σ [(r_Md_first, X)]) _
        have q_12 : 0 ≤ ((σ r_Md_element ((400 * a) + k)) - (σ r_Md_element ((400 * b) + k))) % p ∧ ((σ r_Md_element ((400 * a) + k)) - (σ r_Md_element ((400 * b) + k))) % p < p := sR_lt hO.2.2.2
        refine wp_iast0 rfl rfl (by omega) (wp_wr (l2 := [(r_Md_first, (up X k (((σ r_Md_element ((400 * a) + k)) - (σ r_Md_element ((400 * b) + k))) % p)))]) rfl ?_)
        show en_wp k_X12_alike 62 [some (.inr (.inr (r_Md, 0))), some (.inl a), some (.inl b), some (.inl k)] [] (srl σ [(r_Md_first, (up X k (((σ r_Md_element ((400 * a) + k)) - (σ r_Md_element ((400 * b) + k))) % p)))]) _
        refine wp_run 2 (pc' := 18) (ls' := [some (.inr (.inr (r_Md, 0))), some (.inl a), some (.inl b), some (.inl (k + 1))]) (st' := []) (σ' := srl σ [(r_Md_first, (up X k (((σ r_Md_element ((400 * a) + k)) - (σ r_Md_element ((400 * b) + k))) % p)))]) rfl ?_
        exact ih_18 (k + 1) (up X k (((σ r_Md_element ((400 * a) + k)) - (σ r_Md_element ((400 * b) + k))) % p)) hab (by omega) (by rw [hX]; exact seg_up0 hk.1 rfl) (by omega)
  refine wp_run 1 (pc' := 1) (ls' := [some (.inr (.inr (r_Md, 0))), some (.inl a), some (.inl b), none]) (st' := [.inl a]) (σ' := srl σ []) rfl ?_
  refine wp_fns (v := .inl (bI (0 ≤ a ∧ a ≤ 5))) rfl rfl rfl rfl rfl (ct_X12_isElement σ a (by omega)) ?_
  show en_wp k_X12_alike 4 [some (.inr (.inr (r_Md, 0))), some (.inl a), some (.inl b), none] [.inl (bI (0 ≤ a ∧ a ≤ 5))] (srl σ []) _
  refine wp_if_eqb rfl (fun h_13 => ?_) (fun h_13 => ?_)
  · show en_wp k_X12_alike 14 [some (.inr (.inr (r_Md, 0))), some (.inl a), some (.inl b), none] [] (srl σ []) _
    refine wp_run 1 (pc' := 15) (ls' := [some (.inr (.inr (r_Md, 0))), some (.inl a), some (.inl b), none]) (st' := [.inl (-1)]) (σ' := srl σ []) rfl ?_
    exact wp_iret rfl ⟨(σ r_Md_row), (σ r_Md_first), (-1), rfl, srl_eq (l' := [(r_Md_row, σ r_Md_row), (r_Md_first, σ r_Md_first)]) trivial (And.intro rfl (And.intro rfl trivial)), ⟨by rw [if_neg (by omega)], hrow, hfi⟩⟩
  · show en_wp k_X12_alike 7 [some (.inr (.inr (r_Md, 0))), some (.inl a), some (.inl b), none] [] (srl σ []) _
    refine wp_run 1 (pc' := 8) (ls' := [some (.inr (.inr (r_Md, 0))), some (.inl a), some (.inl b), none]) (st' := [.inl b]) (σ' := srl σ []) rfl ?_
    refine wp_fns (v := .inl (bI (0 ≤ b ∧ b ≤ 5))) rfl rfl rfl rfl rfl (ct_X12_isElement σ b (by omega)) ?_
    show en_wp k_X12_alike 11 [some (.inr (.inr (r_Md, 0))), some (.inl a), some (.inl b), none] [.inl (bI (0 ≤ b ∧ b ≤ 5))] (srl σ []) _
    refine wp_if_neb rfl (fun h_14 => ?_) (fun h_14 => ?_)
    · show en_wp k_X12_alike 16 [some (.inr (.inr (r_Md, 0))), some (.inl a), some (.inl b), none] [] (srl σ []) _
      refine wp_run 2 (pc' := 18) (ls' := [some (.inr (.inr (r_Md, 0))), some (.inl a), some (.inl b), some (.inl 0)]) (st' := []) (σ' := srl σ []) rfl ?_
      refine wp_mem (srl_eq (l' := [(r_Md_first, (σ r_Md_first))]) trivial (And.intro rfl trivial)) ?_
      exact L_18 _ 0 (σ r_Md_first) (by omega) (by omega) (seg_0 _ _ _).symm (Nat.lt_succ_self _)
    · show en_wp k_X12_alike 14 [some (.inr (.inr (r_Md, 0))), some (.inl a), some (.inl b), none] [] (srl σ []) _
      refine wp_run 1 (pc' := 15) (ls' := [some (.inr (.inr (r_Md, 0))), some (.inl a), some (.inl b), none]) (st' := [.inl (-1)]) (σ' := srl σ []) rfl ?_
      exact wp_iret rfl ⟨(σ r_Md_row), (σ r_Md_first), (-1), rfl, srl_eq (l' := [(r_Md_row, σ r_Md_row), (r_Md_first, σ r_Md_first)]) trivial (And.intro rfl (And.intro rfl trivial)), ⟨by rw [if_neg (by omega)], hrow, hfi⟩⟩
theorem ct_X12_dual (σ : en_m) (n : Int) (D : Int) (p : Int) (d : Int) (hI : mI σ n D p) (h1 : i32 d) (hqd : (σ r_Md_quadratic) 0 = 0 ∨ (σ r_Md_quadratic) 0 = 1) : en_fn z_X12_dual [.inr (.inr (r_Md, 0)), .inl d] σ (.inl (if 0 ≤ d ∧ d ≤ D then (if (σ r_Md_quadratic) 0 = 0 then -2 else (σ r_Md_sizes) (9 + d)) else -1)) := by
  show en_wp k_X12_dual 0 [some (.inr (.inr (r_Md, 0))), some (.inl d)] [] (srl σ []) (fun r σ' => r = some (.inl (if 0 ≤ d ∧ d ≤ D then (if (σ r_Md_quadratic) 0 = 0 then -2 else (σ r_Md_sizes) (9 + d)) else -1)) ∧ σ' = σ)
  have hI2 := hI
  obtain ⟨hO, hL, hn, hD, hp, hpw, hst⟩ := hI2
  obtain ⟨⟨hO1, hO2⟩, ⟨hO3, hO4⟩, hO5, hO6, hO7, hO8⟩ := id hO
  refine wp_run 2 (pc' := 2) (ls' := [some (.inr (.inr (r_Md, 0))), some (.inl d)]) (st' := [.inl d, .inr (.inr (r_Md, 0))]) (σ' := srl σ []) rfl ?_
  refine wp_fnv (v := .inl (bI (0 ≤ d ∧ d ≤ D))) rfl rfl rfl rfl (ct_X12_isDegree σ n D p d hI (by omega)) ?_
  show en_wp k_X12_dual 5 [some (.inr (.inr (r_Md, 0))), some (.inl d)] [.inl (bI (0 ≤ d ∧ d ≤ D))] (srl σ []) _
  refine wp_if_neb rfl (fun h_1 => ?_) (fun h_1 => ?_)
  · show en_wp k_X12_dual 12 [some (.inr (.inr (r_Md, 0))), some (.inl d)] [] (srl σ []) _
    refine wp_run 2 (pc' := 16) (ls' := [some (.inr (.inr (r_Md, 0))), some (.inl d)]) (st' := [.inl (σ r_Md_quadratic 0)]) (σ' := srl σ []) rfl ?_
    refine wp_if_eq rfl (by omega) (fun h_2 => ?_) (fun h_2 => ?_)
    · show en_wp k_X12_dual 31 [some (.inr (.inr (r_Md, 0))), some (.inl d)] [] (srl σ []) _
      refine wp_run 1 (pc' := 33) (ls' := [some (.inr (.inr (r_Md, 0))), some (.inl d)]) (st' := [.inl (-2)]) (σ' := srl σ []) rfl ?_
      exact wp_iret rfl ⟨(by repeat (first | rfl | rw [if_pos (by omega)] | rw [if_neg (by omega)])), rfl⟩
    · show en_wp k_X12_dual 19 [some (.inr (.inr (r_Md, 0))), some (.inl d)] [] (srl σ []) _
      refine wp_run 5 (pc' := 27) (ls' := [some (.inr (.inr (r_Md, 0))), some (.inl d)]) (st' := [.inl (9 + d), .inr (.inr (r_Md_sizes, 0))]) (σ' := srl σ []) rfl ?_
      refine wp_iald0 rfl rfl (by omega) ?_
      show en_wp k_X12_dual 28 [some (.inr (.inr (r_Md, 0))), some (.inl d)] [.inl (σ r_Md_sizes (9 + d))] (srl σ []) _
      refine wp_run 1 (pc' := 33) (ls' := [some (.inr (.inr (r_Md, 0))), some (.inl d)]) (st' := [.inl (σ r_Md_sizes (9 + d))]) (σ' := srl σ []) rfl ?_
      exact wp_iret rfl ⟨(by repeat (first | rfl | rw [if_pos (by omega)] | rw [if_neg (by omega)])), rfl⟩
  · show en_wp k_X12_dual 8 [some (.inr (.inr (r_Md, 0))), some (.inl d)] [] (srl σ []) _
    refine wp_run 2 (pc' := 33) (ls' := [some (.inr (.inr (r_Md, 0))), some (.inl d)]) (st' := [.inl (-1)]) (σ' := srl σ []) rfl ?_
    exact wp_iret rfl ⟨(by repeat (first | rfl | rw [if_pos (by omega)] | rw [if_neg (by omega)])), rfl⟩
theorem ct_X12_isFinite (σ : en_m) (n : Int) (D : Int) (p : Int) (hI : mI σ n D p) (hsz : ∀ k, 0 ≤ k → k ≤ D → 0 ≤ (σ r_Md_sizes) k ∧ (σ r_Md_sizes) k ≤ 256) : en_ct z_X12_isFinite [.inr (.inr (r_Md, 0))] σ (fun r σ' => ∃ (rr : Int), r = some (.inl rr) ∧ σ' = srl σ [] ∧ ((rr = 1 ∧ ∃ k, 0 ≤ k ∧ k ≤ D ∧ (σ r_Md_sizes) k = 0) ∨ (rr = 0 ∧ ∀ k, 0 ≤ k → k ≤ D → ¬ (σ r_Md_sizes) k = 0))) := by
  show en_wp k_X12_isFinite 0 [some (.inr (.inr (r_Md, 0))), none] [] (srl σ []) (fun r σ' => ∃ (rr : Int), r = some (.inl rr) ∧ σ' = srl σ [] ∧ ((rr = 1 ∧ ∃ k, 0 ≤ k ∧ k ≤ D ∧ (σ r_Md_sizes) k = 0) ∨ (rr = 0 ∧ ∀ k, 0 ≤ k → k ≤ D → ¬ (σ r_Md_sizes) k = 0)))
  have hI2 := hI
  obtain ⟨hO, hL, hn, hD, hp, hpw, hst⟩ := hI2
  obtain ⟨⟨hO1, hO2⟩, ⟨hO3, hO4⟩, hO5, hO6, hO7, hO8⟩ := id hO
  have L_2 : ∀ (N : Nat) (k : Int), (0 ≤ k ∧ k ≤ D + 1) → (∀ j, 0 ≤ j → j < k → ¬ σ r_Md_sizes j = 0) → (D + 1 - k).toNat < N → en_wp k_X12_isFinite 2 [some (.inr (.inr (r_Md, 0))), some (.inl k)] [] (srl σ []) (fun r σ' => ∃ (rr : Int), r = some (.inl rr) ∧ σ' = srl σ [] ∧ ((rr = 1 ∧ ∃ k, 0 ≤ k ∧ k ≤ D ∧ (σ r_Md_sizes) k = 0) ∨ (rr = 0 ∧ ∀ k, 0 ≤ k → k ≤ D → ¬ (σ r_Md_sizes) k = 0))) := by
    intro N
    induction N with
    | zero => intro k; intros; omega
    | succ N ih_2 =>
      intro k hk hn0 hN_2
      refine wp_run 5 (pc' := 11) (ls' := [some (.inr (.inr (r_Md, 0))), some (.inl k)]) (st' := [.inl (σ r_Md_live 0), .inr (.inr (r_Md_degree, 0)), .inl k]) (σ' := srl σ []) rfl ?_
      refine wp_iald0 rfl rfl (by omega) ?_
      show en_wp k_X12_isFinite 12 [some (.inr (.inr (r_Md, 0))), some (.inl k)] [.inl (σ r_Md_degree (σ r_Md_live 0)), .inl k] (srl σ []) _
      rw [hD]
      show en_wp k_X12_isFinite 12 [some (.inr (.inr (r_Md, 0))), some (.inl k)] [.inl D, .inl k] (srl σ []) _
      refine wp_ic_gt rfl (by omega) (by omega) (fun h_1 => ?_) (fun h_1 => ?_)
      · show en_wp k_X12_isFinite 32 [some (.inr (.inr (r_Md, 0))), some (.inl k)] [] (srl σ []) _
        refine wp_run 1 (pc' := 33) (ls' := [some (.inr (.inr (r_Md, 0))), some (.inl k)]) (st' := [.inl 0]) (σ' := srl σ []) rfl ?_
        exact wp_zret rfl (.inl rfl) ⟨0, rfl, srl_eq (l' := []) trivial trivial, (.inr ⟨rfl, fun j h8 h9 => hn0 j h8 (by omega)⟩)⟩
      · show en_wp k_X12_isFinite 15 [some (.inr (.inr (r_Md, 0))), some (.inl k)] [] (srl σ []) _
        refine wp_run 3 (pc' := 20) (ls' := [some (.inr (.inr (r_Md, 0))), some (.inl k)]) (st' := [.inl k, .inr (.inr (r_Md_sizes, 0))]) (σ' := srl σ []) rfl ?_
        refine wp_iald0 rfl rfl (by omega) ?_
        show en_wp k_X12_isFinite 21 [some (.inr (.inr (r_Md, 0))), some (.inl k)] [.inl (σ r_Md_sizes k)] (srl σ []) _
        have hz := hsz k hk.1 (by omega)
        refine wp_if_ne rfl (by omega) (fun h_2 => ?_) (fun h_2 => ?_)
        · show en_wp k_X12_isFinite 26 [some (.inr (.inr (r_Md, 0))), some (.inl k)] [] (srl σ []) _
          refine wp_run 2 (pc' := 2) (ls' := [some (.inr (.inr (r_Md, 0))), some (.inl (k + 1))]) (st' := []) (σ' := srl σ []) rfl ?_
          exact ih_2 (k + 1) (by omega) (fun j h8 h9 => by rcases Int.lt_or_eq_of_le (show j ≤ k by omega) with h5 | h5 <;> first | exact hn0 j h8 h5 | (rw [h5]; assumption)) (by omega)
        · show en_wp k_X12_isFinite 24 [some (.inr (.inr (r_Md, 0))), some (.inl k)] [] (srl σ []) _
          refine wp_run 1 (pc' := 25) (ls' := [some (.inr (.inr (r_Md, 0))), some (.inl k)]) (st' := [.inl 1]) (σ' := srl σ []) rfl ?_
          exact wp_zret rfl (.inr rfl) ⟨1, rfl, srl_eq (l' := []) trivial trivial, (.inl ⟨rfl, k, by omega, by omega, by assumption⟩)⟩
  refine wp_run 2 (pc' := 2) (ls' := [some (.inr (.inr (r_Md, 0))), some (.inl 0)]) (st' := []) (σ' := srl σ []) rfl ?_
  exact L_2 _ 0 (by omega) (fun j h8 h9 => by omega) (Nat.lt_succ_self _)
theorem ct_X12_weight (σ : en_m) (n : Int) (D : Int) (p : Int) (hI : mI σ n D p) (hsz : ∀ k, 0 ≤ k → k ≤ D → 0 ≤ (σ r_Md_sizes) k ∧ (σ r_Md_sizes) k ≤ 256) : en_ct z_X12_weight [.inr (.inr (r_Md, 0))] σ (fun r σ' => ∃ (rr : Int), r = some (.inl rr) ∧ σ' = srl σ [] ∧ ((rr = -2 ∧ ∀ k, 0 ≤ k → k ≤ D → ¬ (σ r_Md_sizes) k = 0) ∨ ((∃ k, 0 ≤ k ∧ k ≤ D ∧ (σ r_Md_sizes) k = 0) ∧ rr = sm (fun k => (σ r_Md_sizes) k) (D + 1).toNat))) := by
  show en_wp k_X12_weight 0 [some (.inr (.inr (r_Md, 0))), none, none] [] (srl σ []) (fun r σ' => ∃ (rr : Int), r = some (.inl rr) ∧ σ' = srl σ [] ∧ ((rr = -2 ∧ ∀ k, 0 ≤ k → k ≤ D → ¬ (σ r_Md_sizes) k = 0) ∨ ((∃ k, 0 ≤ k ∧ k ≤ D ∧ (σ r_Md_sizes) k = 0) ∧ rr = sm (fun k => (σ r_Md_sizes) k) (D + 1).toNat)))
  have hI2 := hI
  obtain ⟨hO, hL, hn, hD, hp, hpw, hst⟩ := hI2
  obtain ⟨⟨hO1, hO2⟩, ⟨hO3, hO4⟩, hO5, hO6, hO7, hO8⟩ := id hO
  have L_14 : ∀ (N : Nat) (c : Int) (k : Int), (∃ k, 0 ≤ k ∧ k ≤ D ∧ σ r_Md_sizes k = 0) → (0 ≤ k ∧ k ≤ D + 1) → (c = sm (fun k => σ r_Md_sizes k) k.toNat) → (D + 1 - k).toNat < N → en_wp k_X12_weight 14 [some (.inr (.inr (r_Md, 0))), some (.inl c), some (.inl k)] [] (srl σ []) (fun r σ' => ∃ (rr : Int), r = some (.inl rr) ∧ σ' = srl σ [] ∧ ((rr = -2 ∧ ∀ k, 0 ≤ k → k ≤ D → ¬ (σ r_Md_sizes) k = 0) ∨ ((∃ k, 0 ≤ k ∧ k ≤ D ∧ (σ r_Md_sizes) k = 0) ∧ rr = sm (fun k => (σ r_Md_sizes) k) (D + 1).toNat))) := by
    intro N
    induction N with
    | zero => intro c k; intros; omega
    | succ N ih_14 =>
      intro c k hf1 hk hc hN_14
      refine wp_run 5 (pc' := 23) (ls' := [some (.inr (.inr (r_Md, 0))), some (.inl c), some (.inl k)]) (st' := [.inl (σ r_Md_live 0), .inr (.inr (r_Md_degree, 0)), .inl k]) (σ' := srl σ []) rfl ?_
      refine wp_iald0 rfl rfl (by omega) ?_
      show en_wp k_X12_weight 24 [some (.inr (.inr (r_Md, 0))), some (.inl c), some (.inl k)] [.inl (σ r_Md_degree (σ r_Md_live 0)), .inl k] (srl σ []) _
      rw [hD]
      show en_wp k_X12_weight 24 [some (.inr (.inr (r_Md, 0))), some (.inl c), some (.inl k)] [.inl D, .inl k] (srl σ []) _
      refine wp_ic_gt rfl (by omega) (by omega) (fun h_1 => ?_) (fun h_1 => ?_)
      · show en_wp k_X12_weight 42 [some (.inr (.inr (r_Md, 0))), some (.inl c), some (.inl k)] [] (srl σ []) _
        refine wp_run 1 (pc' := 43) (ls' := [some (.inr (.inr (r_Md, 0))), some (.inl c), some (.inl k)]) (st' := [.inl c]) (σ' := srl σ []) rfl ?_
        exact wp_iret rfl ⟨c, rfl, srl_eq (l' := []) trivial trivial, (.inr ⟨hf1, by rw [hc, show k = D + 1 by omega]⟩)⟩
      · show en_wp k_X12_weight 27 [some (.inr (.inr (r_Md, 0))), some (.inl c), some (.inl k)] [] (srl σ []) _
        refine wp_run 4 (pc' := 33) (ls' := [some (.inr (.inr (r_Md, 0))), some (.inl c), some (.inl k)]) (st' := [.inl k, .inr (.inr (r_Md_sizes, 0)), .inl c]) (σ' := srl σ []) rfl ?_
        refine wp_iald0 rfl rfl (by omega) ?_
        show en_wp k_X12_weight 34 [some (.inr (.inr (r_Md, 0))), some (.inl c), some (.inl k)] [.inl (σ r_Md_sizes k), .inl c] (srl σ []) _
        refine wp_run 4 (pc' := 14) (ls' := [some (.inr (.inr (r_Md, 0))), some (.inl (c + (σ r_Md_sizes k))), some (.inl (k + 1))]) (st' := []) (σ' := srl σ []) rfl ?_
        exact ih_14 (c + (σ r_Md_sizes k)) (k + 1) hf1 (by omega) (by rw [hc, sm_s _ hk.1]) (by omega)
  refine wp_run 1 (pc' := 1) (ls' := [some (.inr (.inr (r_Md, 0))), none, none]) (st' := [.inr (.inr (r_Md, 0))]) (σ' := srl σ []) rfl ?_
  refine wp_callv rfl rfl rfl rfl (ct_X12_isFinite σ n D p hI hsz) ?_
  rintro _ _ ⟨r_2, rfl, rfl, p_3⟩
  have p_3 : (r_2 = 1 ∧ ∃ k, 0 ≤ k ∧ k ≤ D ∧ (σ r_Md_sizes) k = 0) ∨ (r_2 = 0 ∧ ∀ k, 0 ≤ k → k ≤ D → ¬ (σ r_Md_sizes) k = 0) := p_3
  show en_wp k_X12_weight 4 [some (.inr (.inr (r_Md, 0))), none, none] [.inl r_2] (srl σ []) _
  have hfin := p_3
  have hfi0 : r_2 = 0 ∨ r_2 = 1 := by rcases hfin with h | h <;> omega
  refine wp_if_ne rfl (by omega) (fun h_4 => ?_) (fun h_4 => ?_)
  · have hf1 : ∃ k, 0 ≤ k ∧ k ≤ D ∧ σ r_Md_sizes k = 0 := by rcases hfin with h | h; exact h.2; exact absurd h.1 (by omega)
    show en_wp k_X12_weight 10 [some (.inr (.inr (r_Md, 0))), none, none] [] (srl σ []) _
    refine wp_run 4 (pc' := 14) (ls' := [some (.inr (.inr (r_Md, 0))), some (.inl 0), some (.inl 0)]) (st' := []) (σ' := srl σ []) rfl ?_
    exact L_14 _ 0 0 hf1 (by omega) rfl (Nat.lt_succ_self _)
  · have hf0 : ∀ k, 0 ≤ k → k ≤ D → ¬ σ r_Md_sizes k = 0 := by rcases hfin with h | h; exact absurd h.1 (by omega); exact h.2
    show en_wp k_X12_weight 7 [some (.inr (.inr (r_Md, 0))), none, none] [] (srl σ []) _
    refine wp_run 1 (pc' := 9) (ls' := [some (.inr (.inr (r_Md, 0))), none, none]) (st' := [.inl (-2)]) (σ' := srl σ []) rfl ?_
    exact wp_iret rfl ⟨(-2), rfl, srl_eq (l' := []) trivial trivial, (.inl ⟨rfl, hf0⟩)⟩
theorem ct_X12_trace (σ : en_m) (n : Int) (D : Int) (p : Int) (LW : Int → (Int → Int) → Prop) (e : Int) (hI : mI σ n D p) (h1 : i32 e) (hE : R97 ((σ r_Md_element))) (hsz : ∀ k, 0 ≤ k → k ≤ D → 0 ≤ (σ r_Md_sizes) k ∧ (σ r_Md_sizes) k ≤ 256) (hna : mNall ((σ r_Md_rowStart)) ((σ r_Md_rows)) ((σ r_Md_leads)) ((σ r_Md_sizes)) n D p LW) : en_ct z_X12_trace [.inr (.inr (r_Md, 0)), .inl e] σ (fun r σ' => ∃ (rr : Int), r = some (.inl rr) ∧ σ' = srl σ [] ∧ ((¬ (0 ≤ e ∧ e ≤ 5) ∧ rr = -1) ∨ ((0 ≤ e ∧ e ≤ 5) ∧ ((rr = -2 ∧ ∀ k, 0 ≤ k → k ≤ D → ¬ (σ r_Md_sizes) k = 0) ∨ ((∃ k, 0 ≤ k ∧ k ≤ D ∧ (σ r_Md_sizes) k = 0) ∧ rr = (sm (fun k => (σ r_Md_sizes) k) (D + 1).toNat * (σ r_Md_element) (400 * e)) % p))))) := by
  show en_wp k_X12_trace 0 [some (.inr (.inr (r_Md, 0))), some (.inl e), none, none, none] [] (srl σ []) (fun r σ' => ∃ (rr : Int), r = some (.inl rr) ∧ σ' = srl σ [] ∧ ((¬ (0 ≤ e ∧ e ≤ 5) ∧ rr = -1) ∨ ((0 ≤ e ∧ e ≤ 5) ∧ ((rr = -2 ∧ ∀ k, 0 ≤ k → k ≤ D → ¬ (σ r_Md_sizes) k = 0) ∨ ((∃ k, 0 ≤ k ∧ k ≤ D ∧ (σ r_Md_sizes) k = 0) ∧ rr = (sm (fun k => (σ r_Md_sizes) k) (D + 1).toNat * (σ r_Md_element) (400 * e)) % p)))))
  have hI2 := hI
  obtain ⟨hO, hL, hn, hD, hp, hpw, hst⟩ := hI2
  obtain ⟨⟨hO1, hO2⟩, ⟨hO3, hO4⟩, hO5, hO6, hO7, hO8⟩ := id hO
  obtain ⟨hN1, hN2, hN3⟩ := id hna
  have L_23 : ∀ (N : Nat) (c : Int) (d : Int), ((0 ≤ e ∧ e ≤ 5)) → (∃ k, 0 ≤ k ∧ k ≤ D ∧ σ r_Md_sizes k = 0) → (0 ≤ d ∧ d ≤ D + 1) → (c = (sm (fun k => σ r_Md_sizes k) d.toNat * σ r_Md_element (400 * e)) % p) → (D + 1 - d).toNat < N → en_wp k_X12_trace 23 [some (.inr (.inr (r_Md, 0))), some (.inl e), some (.inl c), some (.inl d), none] [] (srl σ []) (fun r σ' => ∃ (rr : Int), r = some (.inl rr) ∧ σ' = srl σ [] ∧ ((¬ (0 ≤ e ∧ e ≤ 5) ∧ rr = -1) ∨ ((0 ≤ e ∧ e ≤ 5) ∧ ((rr = -2 ∧ ∀ k, 0 ≤ k → k ≤ D → ¬ (σ r_Md_sizes) k = 0) ∨ ((∃ k, 0 ≤ k ∧ k ≤ D ∧ (σ r_Md_sizes) k = 0) ∧ rr = (sm (fun k => (σ r_Md_sizes) k) (D + 1).toNat * (σ r_Md_element) (400 * e)) % p))))) := by
    intro N
    induction N with
    | zero => intro c d; intros; omega
    | succ N ih_23 =>
      intro c d hev hf1 hd hc hN_23
      have hWb := sW_b (k := d) hO
      have L_39 : ∀ (N : Nat) (c : Int) (w : Int), (d ≤ D) → (0 ≤ w ∧ w ≤ sW n D d) → (c = ((sm (fun k => σ r_Md_sizes k) d.toNat + sm (fun w => if σ r_Md_leads (sS n D d + w) = 0 then 1 else 0) w.toNat) * σ r_Md_element (400 * e)) % p) → (sW n D d - w).toNat < N → en_wp k_X12_trace 39 [some (.inr (.inr (r_Md, 0))), some (.inl e), some (.inl c), some (.inl d), some (.inl w)] [] (srl σ []) (fun r σ' => ∃ (rr : Int), r = some (.inl rr) ∧ σ' = srl σ [] ∧ ((¬ (0 ≤ e ∧ e ≤ 5) ∧ rr = -1) ∨ ((0 ≤ e ∧ e ≤ 5) ∧ ((rr = -2 ∧ ∀ k, 0 ≤ k → k ≤ D → ¬ (σ r_Md_sizes) k = 0) ∨ ((∃ k, 0 ≤ k ∧ k ≤ D ∧ (σ r_Md_sizes) k = 0) ∧ rr = (sm (fun k => (σ r_Md_sizes) k) (D + 1).toNat * (σ r_Md_element) (400 * e)) % p))))) := by
        intro N
        induction N with
        | zero => intro c w; intros; omega
        | succ N ih_39 =>
          intro c w hdD hw hc2 hN_39
          have hcb := @sR_lt p ((sm (fun k => σ r_Md_sizes k) d.toNat + sm (fun w => if σ r_Md_leads (sS n D d + w) = 0 then 1 else 0) w.toNat) * σ r_Md_element (400 * e)) hO.2.2.2
          rw [← hc2] at hcb
          refine wp_run 3 (pc' := 43) (ls' := [some (.inr (.inr (r_Md, 0))), some (.inl e), some (.inl c), some (.inl d), some (.inl w)]) (st' := [.inl d, .inr (.inr (r_Md, 0)), .inl w]) (σ' := srl σ []) rfl ?_
          refine wp_fnv (v := .inl (sW n D d)) rfl rfl rfl rfl (ct_X12_wide σ n D p d hI (by omega)) ?_
          show en_wp k_X12_trace 46 [some (.inr (.inr (r_Md, 0))), some (.inl e), some (.inl c), some (.inl d), some (.inl w)] [.inl (sW n D d), .inl w] (srl σ []) _
          have q_1 : 0 ≤ sW n D d ∧ sW n D d ≤ 256 := sW_b hO
          refine wp_ic_ge rfl (by omega) (by omega) (fun h_2 => ?_) (fun h_2 => ?_)
          · show en_wp k_X12_trace 87 [some (.inr (.inr (r_Md, 0))), some (.inl e), some (.inl c), some (.inl d), some (.inl w)] [] (srl σ []) _
            refine wp_run 2 (pc' := 23) (ls' := [some (.inr (.inr (r_Md, 0))), some (.inl e), some (.inl c), some (.inl (d + 1)), some (.inl w)]) (st' := []) (σ' := srl σ []) rfl ?_
            refine wp_sub (l := [some (.inr (.inr (r_Md, 0))), some (.inl e), some (.inl c), some (.inl (d + 1)), none]) (And.intro rfl (And.intro rfl (And.intro rfl (And.intro rfl trivial)))) ?_
            exact ih_23 c (d + 1) (by omega) hf1 (by omega) (by rw [hc2, sm_s _ hd.1, show w = sW n D d by omega, ← mN_sz (hN1 d hd.1 hdD)]) (by omega)
          · show en_wp k_X12_trace 49 [some (.inr (.inr (r_Md, 0))), some (.inl e), some (.inl c), some (.inl d), some (.inl w)] [] (srl σ []) _
            refine wp_run 3 (pc' := 53) (ls' := [some (.inr (.inr (r_Md, 0))), some (.inl e), some (.inl c), some (.inl d), some (.inl w)]) (st' := [.inl w, .inl d, .inr (.inr (r_Md, 0))]) (σ' := srl σ []) rfl ?_
            refine wp_fnv (v := .inl (bI ((σ r_Md_leads) (sS n D d + w) = 0))) rfl rfl rfl rfl (ct_X12_isNormal σ n D p d w hI (by omega) (by omega) hN3) ?_
            show en_wp k_X12_trace 56 [some (.inr (.inr (r_Md, 0))), some (.inl e), some (.inl c), some (.inl d), some (.inl w)] [.inl (bI ((σ r_Md_leads) (sS n D d + w) = 0))] (srl σ []) _
            refine wp_if_neb rfl (fun h_3 => ?_) (fun h_3 => ?_)
            · show en_wp k_X12_trace 62 [some (.inr (.inr (r_Md, 0))), some (.inl e), some (.inl c), some (.inl d), some (.inl w)] [] (srl σ []) _
              refine wp_run 2 (pc' := 64) (ls' := [some (.inr (.inr (r_Md, 0))), some (.inl e), some (.inl c), some (.inl d), some (.inl w)]) (st' := [.inl c, .inr (.inr (r_Md, 0))]) (σ' := srl σ []) rfl ?_
              have hx1 := hE (400 * e)
              refine wp_i2l rfl (by omega) ?_
              show en_wp k_X12_trace 65 [some (.inr (.inr (r_Md, 0))), some (.inl e), some (.inl c), some (.inl d), some (.inl w)] [.inr (.inl c), .inr (.inr (r_Md, 0))] (srl σ []) _
              refine wp_run 5 (pc' := 74) (ls' := [some (.inr (.inr (r_Md, 0))), some (.inl e), some (.inl c), some (.inl d), some (.inl w)]) (st' := [.inl (400 * e), .inr (.inr (r_Md_element, 0)), .inr (.inl c), .inr (.inr (r_Md, 0))]) (σ' := srl σ []) rfl ?_
              refine wp_iald0 rfl rfl (by omega) ?_
              show en_wp k_X12_trace 75 [some (.inr (.inr (r_Md, 0))), some (.inl e), some (.inl c), some (.inl d), some (.inl w)] [.inl (σ r_Md_element (400 * e)), .inr (.inl c), .inr (.inr (r_Md, 0))] (srl σ []) _
              have hx1 := hE (400 * e)
              refine wp_i2l rfl (by omega) ?_
              show en_wp k_X12_trace 76 [some (.inr (.inr (r_Md, 0))), some (.inl e), some (.inl c), some (.inl d), some (.inl w)] [.inr (.inl (σ r_Md_element (400 * e))), .inr (.inl c), .inr (.inr (r_Md, 0))] (srl σ []) _
              refine wp_run 1 (pc' := 77) (ls' := [some (.inr (.inr (r_Md, 0))), some (.inl e), some (.inl c), some (.inl d), some (.inl w)]) (st' := [.inr (.inl (c + (σ r_Md_element (400 * e)))), .inr (.inr (r_Md, 0))]) (σ' := srl σ []) rfl ?_
              refine wp_fnv (v := .inl ((c + (σ r_Md_element (400 * e))) % p)) rfl rfl rfl rfl (ct_X12_rest σ n D p (c + (σ r_Md_element (400 * e))) hI (by omega)) ?_
              show en_wp k_X12_trace 80 [some (.inr (.inr (r_Md, 0))), some (.inl e), some (.inl c), some (.inl d), some (.inl w)] [.inl ((c + (σ r_Md_element (400 * e))) % p)] (srl σ []) _
              have q_4 : 0 ≤ (c + (σ r_Md_element (400 * e))) % p ∧ (c + (σ r_Md_element (400 * e))) % p < p := sR_lt hO.2.2.2
              refine wp_run 3 (pc' := 39) (ls' := [some (.inr (.inr (r_Md, 0))), some (.inl e), some (.inl ((c + (σ r_Md_element (400 * e))) % p)), some (.inl d), some (.inl (w + 1))]) (st' := []) (σ' := srl σ []) rfl ?_
              exact ih_39 ((c + (σ r_Md_element (400 * e))) % p) (w + 1) (by omega) (by omega) (by rw [hc2, sm_s _ hw.1, if_pos (by assumption), ml_e]; congr 2; omega) (by omega)
            · show en_wp k_X12_trace 59 [some (.inr (.inr (r_Md, 0))), some (.inl e), some (.inl c), some (.inl d), some (.inl w)] [] (srl σ []) _
              refine wp_run 3 (pc' := 39) (ls' := [some (.inr (.inr (r_Md, 0))), some (.inl e), some (.inl c), some (.inl d), some (.inl (w + 1))]) (st' := []) (σ' := srl σ []) rfl ?_
              exact ih_39 c (w + 1) (by omega) (by omega) (by rw [hc2, sm_s _ hw.1, if_neg (by assumption), Int.add_zero]) (by omega)
      refine wp_run 5 (pc' := 32) (ls' := [some (.inr (.inr (r_Md, 0))), some (.inl e), some (.inl c), some (.inl d), none]) (st' := [.inl (σ r_Md_live 0), .inr (.inr (r_Md_degree, 0)), .inl d]) (σ' := srl σ []) rfl ?_
      refine wp_iald0 rfl rfl (by omega) ?_
      show en_wp k_X12_trace 33 [some (.inr (.inr (r_Md, 0))), some (.inl e), some (.inl c), some (.inl d), none] [.inl (σ r_Md_degree (σ r_Md_live 0)), .inl d] (srl σ []) _
      rw [hD]
      show en_wp k_X12_trace 33 [some (.inr (.inr (r_Md, 0))), some (.inl e), some (.inl c), some (.inl d), none] [.inl D, .inl d] (srl σ []) _
      refine wp_ic_gt rfl (by omega) (by omega) (fun h_5 => ?_) (fun h_5 => ?_)
      · show en_wp k_X12_trace 93 [some (.inr (.inr (r_Md, 0))), some (.inl e), some (.inl c), some (.inl d), none] [] (srl σ []) _
        refine wp_run 1 (pc' := 94) (ls' := [some (.inr (.inr (r_Md, 0))), some (.inl e), some (.inl c), some (.inl d), none]) (st' := [.inl c]) (σ' := srl σ []) rfl ?_
        exact wp_iret rfl ⟨c, rfl, srl_eq (l' := []) trivial trivial, (.inr ⟨hev, .inr ⟨hf1, by rw [hc, show d = D + 1 by omega]⟩⟩)⟩
      · show en_wp k_X12_trace 36 [some (.inr (.inr (r_Md, 0))), some (.inl e), some (.inl c), some (.inl d), none] [] (srl σ []) _
        refine wp_run 2 (pc' := 39) (ls' := [some (.inr (.inr (r_Md, 0))), some (.inl e), some (.inl c), some (.inl d), some (.inl 0)]) (st' := []) (σ' := srl σ []) rfl ?_
        exact L_39 _ c 0 (by omega) (by omega) (by rw [hc]; show _ = ((_ + 0) * _) % p; rw [Int.add_zero]) (Nat.lt_succ_self _)
  refine wp_run 1 (pc' := 1) (ls' := [some (.inr (.inr (r_Md, 0))), some (.inl e), none, none, none]) (st' := [.inl e]) (σ' := srl σ []) rfl ?_
  refine wp_fns (v := .inl (bI (0 ≤ e ∧ e ≤ 5))) rfl rfl rfl rfl rfl (ct_X12_isElement σ e (by omega)) ?_
  show en_wp k_X12_trace 4 [some (.inr (.inr (r_Md, 0))), some (.inl e), none, none, none] [.inl (bI (0 ≤ e ∧ e ≤ 5))] (srl σ []) _
  refine wp_if_neb rfl (fun h_6 => ?_) (fun h_6 => ?_)
  · show en_wp k_X12_trace 9 [some (.inr (.inr (r_Md, 0))), some (.inl e), none, none, none] [] (srl σ []) _
    refine wp_run 1 (pc' := 10) (ls' := [some (.inr (.inr (r_Md, 0))), some (.inl e), none, none, none]) (st' := [.inr (.inr (r_Md, 0))]) (σ' := srl σ []) rfl ?_
    refine wp_callv rfl rfl rfl rfl (ct_X12_isFinite σ n D p hI hsz) ?_
    rintro _ _ ⟨r_7, rfl, rfl, p_8⟩
    have p_8 : (r_7 = 1 ∧ ∃ k, 0 ≤ k ∧ k ≤ D ∧ (σ r_Md_sizes) k = 0) ∨ (r_7 = 0 ∧ ∀ k, 0 ≤ k → k ≤ D → ¬ (σ r_Md_sizes) k = 0) := p_8
    show en_wp k_X12_trace 13 [some (.inr (.inr (r_Md, 0))), some (.inl e), none, none, none] [.inl r_7] (srl σ []) _
    have hfin := p_8
    have hfi0 : r_7 = 0 ∨ r_7 = 1 := by rcases hfin with h | h <;> omega
    refine wp_if_ne rfl (by omega) (fun h_9 => ?_) (fun h_9 => ?_)
    · have hf1 : ∃ k, 0 ≤ k ∧ k ≤ D ∧ σ r_Md_sizes k = 0 := by rcases hfin with h | h; exact h.2; exact absurd h.1 (by omega)
      show en_wp k_X12_trace 19 [some (.inr (.inr (r_Md, 0))), some (.inl e), none, none, none] [] (srl σ []) _
      refine wp_run 4 (pc' := 23) (ls' := [some (.inr (.inr (r_Md, 0))), some (.inl e), some (.inl 0), some (.inl 0), none]) (st' := []) (σ' := srl σ []) rfl ?_
      exact L_23 _ 0 0 (by omega) hf1 (by omega) (by show (0 : Int) = (0 * _) % p; rw [Int.zero_mul]; exact (Int.zero_emod p).symm) (Nat.lt_succ_self _)
    · have hf0 : ∀ k, 0 ≤ k → k ≤ D → ¬ σ r_Md_sizes k = 0 := by rcases hfin with h | h; exact absurd h.1 (by omega); exact h.2
      show en_wp k_X12_trace 16 [some (.inr (.inr (r_Md, 0))), some (.inl e), none, none, none] [] (srl σ []) _
      refine wp_run 1 (pc' := 18) (ls' := [some (.inr (.inr (r_Md, 0))), some (.inl e), none, none, none]) (st' := [.inl (-2)]) (σ' := srl σ []) rfl ?_
      exact wp_iret rfl ⟨(-2), rfl, srl_eq (l' := []) trivial trivial, (.inr ⟨by omega, .inl ⟨rfl, hf0⟩⟩)⟩
  · show en_wp k_X12_trace 7 [some (.inr (.inr (r_Md, 0))), some (.inl e), none, none, none] [] (srl σ []) _
    refine wp_run 1 (pc' := 8) (ls' := [some (.inr (.inr (r_Md, 0))), some (.inl e), none, none, none]) (st' := [.inl (-1)]) (σ' := srl σ []) rfl ?_
    exact wp_iret rfl ⟨(-1), rfl, srl_eq (l' := []) trivial trivial, (.inl ⟨by omega, rfl⟩)⟩
