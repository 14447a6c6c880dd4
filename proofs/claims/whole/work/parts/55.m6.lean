/-! contracts of methods, walked (written by wip/whole/walk.py from the annotations ann_m6) -/
theorem ct_X12_isNormal (σ : en_m) (n : Int) (D : Int) (p : Int) (d : Int) (w : Int) (hI : mI σ n D p) (hd : 0 ≤ d ∧ d ≤ D) (hw : 0 ≤ w ∧ w < sW n D d) (hlead : R01 ((σ r_Md_leads))) : en_fn z_X12_isNormal [.inr (.inr (r_Md, 0)), .inl d, .inl w] σ (.inl (bI ((σ r_Md_leads) (sS n D d + w) = 0))) := by
  show en_wp k_X12_isNormal 0 [some (.inr (.inr (r_Md, 0))), some (.inl d), some (.inl w)] [] (srl σ []) (fun r σ' => r = some (.inl (bI ((σ r_Md_leads) (sS n D d + w) = 0))) ∧ σ' = σ)
  have hI2 := hI
  obtain ⟨hO, hL, hn, hD, hp, hpw, hst⟩ := hI2
  obtain ⟨⟨hO1, hO2⟩, ⟨hO3, hO4⟩, hO5, hO6, hO7, hO8⟩ := id hO
  refine wp_run 4 (pc' := 6) (ls' := [some (.inr (.inr (r_Md, 0))), some (.inl d), some (.inl w)]) (st' := [.inl d, .inr (.inr (r_Md, 0)), .inr (.inr (r_Md_leads, 0))]) (σ' := srl σ []) rfl ?_
  refine wp_fnv (v := .inl (sS n D d)) rfl rfl rfl rfl (ct_X12_start σ n D p d hI (by omega)) ?_
  show en_wp k_X12_isNormal 9 [some (.inr (.inr (r_Md, 0))), some (.inl d), some (.inl w)] [.inl (sS n D d), .inr (.inr (r_Md_leads, 0))] (srl σ []) _
  have q_1 : 0 ≤ sS n D d ∧ sS n D d ≤ 364 := sS_b hO
  refine wp_run 2 (pc' := 11) (ls' := [some (.inr (.inr (r_Md, 0))), some (.inl d), some (.inl w)]) (st' := [.inl ((sS n D d) + w), .inr (.inr (r_Md_leads, 0))]) (σ' := srl σ []) rfl ?_
  have hsw := sS_word hO hd.1 hw
  have h01 := hlead (sS n D d + w)
  refine wp_bald0 rfl (.inr rfl) (by omega) ?_
  show en_wp k_X12_isNormal 12 [some (.inr (.inr (r_Md, 0))), some (.inl d), some (.inl w)] [.inl (σ r_Md_leads ((sS n D d) + w))] (srl σ []) _
  refine wp_if_ne rfl (by omega) (fun h_2 => ?_) (fun h_2 => ?_)
  · show en_wp k_X12_isNormal 19 [some (.inr (.inr (r_Md, 0))), some (.inl d), some (.inl w)] [] (srl σ []) _
    refine wp_run 1 (pc' := 20) (ls' := [some (.inr (.inr (r_Md, 0))), some (.inl d), some (.inl w)]) (st' := [.inl 0]) (σ' := srl σ []) rfl ?_
    exact wp_zret rfl (.inl rfl) ⟨(by first | rw [bI_t (by omega)] | rw [bI_f (by omega)]), rfl⟩
  · show en_wp k_X12_isNormal 15 [some (.inr (.inr (r_Md, 0))), some (.inl d), some (.inl w)] [] (srl σ []) _
    refine wp_run 2 (pc' := 20) (ls' := [some (.inr (.inr (r_Md, 0))), some (.inl d), some (.inl w)]) (st' := [.inl 1]) (σ' := srl σ []) rfl ?_
    exact wp_zret rfl (.inr rfl) ⟨(by first | rw [bI_t (by omega)] | rw [bI_f (by omega)]), rfl⟩
theorem ct_X12_isBase (σ : en_m) (n : Int) (D : Int) (p : Int) (d : Int) (w : Int) (hI : mI σ n D p) (hd : 0 ≤ d ∧ d ≤ D) (hw : 0 ≤ w ∧ w < sW n D d) (hlead : R01 ((σ r_Md_leads))) : en_fn z_X12_isBase [.inr (.inr (r_Md, 0)), .inl d, .inl w] σ (.inl (bI (isB ((σ r_Md_leads)) n D d w))) := by
  show en_wp k_X12_isBase 0 [some (.inr (.inr (r_Md, 0))), some (.inl d), some (.inl w)] [] (srl σ []) (fun r σ' => r = some (.inl (bI (isB ((σ r_Md_leads)) n D d w))) ∧ σ' = σ)
  have hI2 := hI
  obtain ⟨hO, hL, hn, hD, hp, hpw, hst⟩ := hI2
  obtain ⟨⟨hO1, hO2⟩, ⟨hO3, hO4⟩, hO5, hO6, hO7, hO8⟩ := id hO
  have hwl : 1 ≤ d → _ := fun h => wd_lt hO h hw
  have hWb := sW_b (k := d) hO
  refine wp_run 1 (pc' := 1) (ls' := [some (.inr (.inr (r_Md, 0))), some (.inl d), some (.inl w)]) (st' := [.inl d]) (σ' := srl σ []) rfl ?_
  refine wp_if_eq rfl (by omega) (fun h_1 => ?_) (fun h_1 => ?_)
  · show en_wp k_X12_isBase 13 [some (.inr (.inr (r_Md, 0))), some (.inl d), some (.inl w)] [] (srl σ []) _
    refine wp_run 1 (pc' := 14) (ls' := [some (.inr (.inr (r_Md, 0))), some (.inl d), some (.inl w)]) (st' := [.inl 0]) (σ' := srl σ []) rfl ?_
    exact wp_zret rfl (.inl rfl) ⟨(by first | rw [bI_t (by omega)] | rw [bI_f (by omega)]), rfl⟩
  · show en_wp k_X12_isBase 4 [some (.inr (.inr (r_Md, 0))), some (.inl d), some (.inl w)] [] (srl σ []) _
    refine wp_run 3 (pc' := 7) (ls' := [some (.inr (.inr (r_Md, 0))), some (.inl d), some (.inl w)]) (st' := [.inl w, .inl d, .inr (.inr (r_Md, 0))]) (σ' := srl σ []) rfl ?_
    refine wp_fnv (v := .inl (bI ((σ r_Md_leads) (sS n D d + w) = 0))) rfl rfl rfl rfl (ct_X12_isNormal σ n D p d w hI (by omega) (by omega) hlead) ?_
    show en_wp k_X12_isBase 10 [some (.inr (.inr (r_Md, 0))), some (.inl d), some (.inl w)] [.inl (bI ((σ r_Md_leads) (sS n D d + w) = 0))] (srl σ []) _
    refine wp_if_eqb rfl (fun h_2 => ?_) (fun h_2 => ?_)
    · have hwl2 := hwl (by omega)
      show en_wp k_X12_isBase 15 [some (.inr (.inr (r_Md, 0))), some (.inl d), some (.inl w)] [] (srl σ []) _
      refine wp_run 9 (pc' := 28) (ls' := [some (.inr (.inr (r_Md, 0))), some (.inl d), some (.inl w)]) (st' := [.inl (σ r_Md_live 0), .inr (.inr (r_Md_letters, 0)), .inl w, .inl (d - 1), .inr (.inr (r_Md, 0))]) (σ' := srl σ []) rfl ?_
      refine wp_iald0 rfl rfl (by omega) ?_
      show en_wp k_X12_isBase 29 [some (.inr (.inr (r_Md, 0))), some (.inl d), some (.inl w)] [.inl (σ r_Md_letters (σ r_Md_live 0)), .inl w, .inl (d - 1), .inr (.inr (r_Md, 0))] (srl σ []) _
      rw [hn]
      show en_wp k_X12_isBase 29 [some (.inr (.inr (r_Md, 0))), some (.inl d), some (.inl w)] [.inl n, .inl w, .inl (d - 1), .inr (.inr (r_Md, 0))] (srl σ []) _
      refine wp_idivp rfl (by omega) (by omega) ?_
      show en_wp k_X12_isBase 30 [some (.inr (.inr (r_Md, 0))), some (.inl d), some (.inl w)] [.inl (w / n), .inl (d - 1), .inr (.inr (r_Md, 0))] (srl σ []) _
      refine wp_fnv (v := .inl (bI ((σ r_Md_leads) (sS n D (d - 1) + (w / n)) = 0))) rfl rfl rfl rfl (ct_X12_isNormal σ n D p (d - 1) (w / n) hI (by omega) (by omega) hlead) ?_
      show en_wp k_X12_isBase 33 [some (.inr (.inr (r_Md, 0))), some (.inl d), some (.inl w)] [.inl (bI ((σ r_Md_leads) (sS n D (d - 1) + (w / n)) = 0))] (srl σ []) _
      refine wp_if_eqb rfl (fun h_3 => ?_) (fun h_3 => ?_)
      · show en_wp k_X12_isBase 59 [some (.inr (.inr (r_Md, 0))), some (.inl d), some (.inl w)] [] (srl σ []) _
        refine wp_run 1 (pc' := 60) (ls' := [some (.inr (.inr (r_Md, 0))), some (.inl d), some (.inl w)]) (st' := [.inl 0]) (σ' := srl σ []) rfl ?_
        exact wp_zret rfl (.inl rfl) ⟨(by first | rw [bI_t (by omega)] | rw [bI_f (by omega)]), rfl⟩
      · show en_wp k_X12_isBase 36 [some (.inr (.inr (r_Md, 0))), some (.inl d), some (.inl w)] [] (srl σ []) _
        refine wp_run 9 (pc' := 45) (ls' := [some (.inr (.inr (r_Md, 0))), some (.inl d), some (.inl w)]) (st' := [.inl (d - 1), .inr (.inr (r_Md, 0)), .inl w, .inl (d - 1), .inr (.inr (r_Md, 0))]) (σ' := srl σ []) rfl ?_
        refine wp_fnv (v := .inl (sW n D (d - 1))) rfl rfl rfl rfl (ct_X12_wide σ n D p (d - 1) hI (by omega)) ?_
        show en_wp k_X12_isBase 48 [some (.inr (.inr (r_Md, 0))), some (.inl d), some (.inl w)] [.inl (sW n D (d - 1)), .inl w, .inl (d - 1), .inr (.inr (r_Md, 0))] (srl σ []) _
        have q_4 : 0 ≤ sW n D (d - 1) ∧ sW n D (d - 1) ≤ 256 := sW_b hO
        refine wp_iremp rfl (by omega) (by omega) ?_
        show en_wp k_X12_isBase 49 [some (.inr (.inr (r_Md, 0))), some (.inl d), some (.inl w)] [.inl (w % (sW n D (d - 1))), .inl (d - 1), .inr (.inr (r_Md, 0))] (srl σ []) _
        refine wp_fnv (v := .inl (bI ((σ r_Md_leads) (sS n D (d - 1) + (w % (sW n D (d - 1)))) = 0))) rfl rfl rfl rfl (ct_X12_isNormal σ n D p (d - 1) (w % (sW n D (d - 1))) hI (by omega) (by omega) hlead) ?_
        show en_wp k_X12_isBase 52 [some (.inr (.inr (r_Md, 0))), some (.inl d), some (.inl w)] [.inl (bI ((σ r_Md_leads) (sS n D (d - 1) + (w % (sW n D (d - 1)))) = 0))] (srl σ []) _
        refine wp_if_eqb rfl (fun h_5 => ?_) (fun h_5 => ?_)
        · show en_wp k_X12_isBase 59 [some (.inr (.inr (r_Md, 0))), some (.inl d), some (.inl w)] [] (srl σ []) _
          refine wp_run 1 (pc' := 60) (ls' := [some (.inr (.inr (r_Md, 0))), some (.inl d), some (.inl w)]) (st' := [.inl 0]) (σ' := srl σ []) rfl ?_
          exact wp_zret rfl (.inl rfl) ⟨(by first | rw [bI_t (by omega)] | rw [bI_f (by omega)]), rfl⟩
        · show en_wp k_X12_isBase 55 [some (.inr (.inr (r_Md, 0))), some (.inl d), some (.inl w)] [] (srl σ []) _
          refine wp_run 2 (pc' := 60) (ls' := [some (.inr (.inr (r_Md, 0))), some (.inl d), some (.inl w)]) (st' := [.inl 1]) (σ' := srl σ []) rfl ?_
          exact wp_zret rfl (.inr rfl) ⟨(by first | rw [bI_t (by omega)] | rw [bI_f (by omega)]), rfl⟩
    · show en_wp k_X12_isBase 13 [some (.inr (.inr (r_Md, 0))), some (.inl d), some (.inl w)] [] (srl σ []) _
      refine wp_run 1 (pc' := 14) (ls' := [some (.inr (.inr (r_Md, 0))), some (.inl d), some (.inl w)]) (st' := [.inl 0]) (σ' := srl σ []) rfl ?_
      exact wp_zret rfl (.inl rfl) ⟨(by first | rw [bI_t (by omega)] | rw [bI_f (by omega)]), rfl⟩
theorem ct_X12_baseOf (σ : en_m) (n : Int) (D : Int) (p : Int) (d : Int) (hI : mI σ n D p) (hd : 0 ≤ d ∧ d ≤ D) (hlead : R01 ((σ r_Md_leads))) : en_fn z_X12_baseOf [.inr (.inr (r_Md, 0)), .inl d] σ (.inl (cB ((σ r_Md_leads)) n D d)) := by
  show en_wp k_X12_baseOf 0 [some (.inr (.inr (r_Md, 0))), some (.inl d), none, none] [] (srl σ []) (fun r σ' => r = some (.inl (cB ((σ r_Md_leads)) n D d)) ∧ σ' = σ)
  have hI2 := hI
  obtain ⟨hO, hL, hn, hD, hp, hpw, hst⟩ := hI2
  obtain ⟨⟨hO1, hO2⟩, ⟨hO3, hO4⟩, hO5, hO6, hO7, hO8⟩ := id hO
  have hWb := sW_b (k := d) hO
  have L_4 : ∀ (N : Nat) (c : Int) (w : Int), (0 ≤ w ∧ w ≤ sW n D d) → (c = sm (fun w => bI (isB (σ r_Md_leads) n D d w)) w.toNat) → (sW n D d - w).toNat < N → en_wp k_X12_baseOf 4 [some (.inr (.inr (r_Md, 0))), some (.inl d), some (.inl c), some (.inl w)] [] (srl σ []) (fun r σ' => r = some (.inl (cB ((σ r_Md_leads)) n D d)) ∧ σ' = σ) := by
    intro N
    induction N with
    | zero => intro c w; intros; omega
    | succ N ih_4 =>
      intro c w hw hc hN_4
      refine wp_run 3 (pc' := 7) (ls' := [some (.inr (.inr (r_Md, 0))), some (.inl d), some (.inl c), some (.inl w)]) (st' := [.inl d, .inr (.inr (r_Md, 0)), .inl w]) (σ' := srl σ []) rfl ?_
      refine wp_fnv (v := .inl (sW n D d)) rfl rfl rfl rfl (ct_X12_wide σ n D p d hI (by omega)) ?_
      show en_wp k_X12_baseOf 10 [some (.inr (.inr (r_Md, 0))), some (.inl d), some (.inl c), some (.inl w)] [.inl (sW n D d), .inl w] (srl σ []) _
      have q_1 : 0 ≤ sW n D d ∧ sW n D d ≤ 256 := sW_b hO
      refine wp_ic_ge rfl (by omega) (by omega) (fun h_2 => ?_) (fun h_2 => ?_)
      · show en_wp k_X12_baseOf 31 [some (.inr (.inr (r_Md, 0))), some (.inl d), some (.inl c), some (.inl w)] [] (srl σ []) _
        refine wp_run 1 (pc' := 32) (ls' := [some (.inr (.inr (r_Md, 0))), some (.inl d), some (.inl c), some (.inl w)]) (st' := [.inl c]) (σ' := srl σ []) rfl ?_
        exact wp_iret rfl ⟨(by rw [hc, show w = sW n D d by omega]; rfl), rfl⟩
      · show en_wp k_X12_baseOf 13 [some (.inr (.inr (r_Md, 0))), some (.inl d), some (.inl c), some (.inl w)] [] (srl σ []) _
        refine wp_run 3 (pc' := 16) (ls' := [some (.inr (.inr (r_Md, 0))), some (.inl d), some (.inl c), some (.inl w)]) (st' := [.inl w, .inl d, .inr (.inr (r_Md, 0))]) (σ' := srl σ []) rfl ?_
        refine wp_fnv (v := .inl (bI (isB ((σ r_Md_leads)) n D d w))) rfl rfl rfl rfl (ct_X12_isBase σ n D p d w hI (by omega) (by omega) hlead) ?_
        show en_wp k_X12_baseOf 19 [some (.inr (.inr (r_Md, 0))), some (.inl d), some (.inl c), some (.inl w)] [.inl (bI (isB ((σ r_Md_leads)) n D d w))] (srl σ []) _
        refine wp_if_eqb rfl (fun h_3 => ?_) (fun h_3 => ?_)
        · show en_wp k_X12_baseOf 25 [some (.inr (.inr (r_Md, 0))), some (.inl d), some (.inl c), some (.inl w)] [] (srl σ []) _
          refine wp_run 2 (pc' := 4) (ls' := [some (.inr (.inr (r_Md, 0))), some (.inl d), some (.inl c), some (.inl (w + 1))]) (st' := []) (σ' := srl σ []) rfl ?_
          exact ih_4 c (w + 1) (by omega) (by rw [hc, sm_s _ hw.1]; first | rw [bI_t (by assumption)] | rw [bI_f (by assumption), Int.add_zero]) (by omega)
        · show en_wp k_X12_baseOf 22 [some (.inr (.inr (r_Md, 0))), some (.inl d), some (.inl c), some (.inl w)] [] (srl σ []) _
          refine wp_run 3 (pc' := 4) (ls' := [some (.inr (.inr (r_Md, 0))), some (.inl d), some (.inl (c + 1)), some (.inl (w + 1))]) (st' := []) (σ' := srl σ []) rfl ?_
          exact ih_4 (c + 1) (w + 1) (by omega) (by rw [hc, sm_s _ hw.1]; first | rw [bI_t (by assumption)] | rw [bI_f (by assumption), Int.add_zero]) (by omega)
  refine wp_run 4 (pc' := 4) (ls' := [some (.inr (.inr (r_Md, 0))), some (.inl d), some (.inl 0), some (.inl 0)]) (st' := []) (σ' := srl σ []) rfl ?_
  exact L_4 _ 0 0 (by omega) rfl (Nat.lt_succ_self _)
theorem ct_X12_base (σ : en_m) (n : Int) (D : Int) (p : Int) (d : Int) (hI : mI σ n D p) (h1 : i32 d) (hlead : R01 ((σ r_Md_leads))) : en_fn z_X12_base [.inr (.inr (r_Md, 0)), .inl d] σ (.inl (if 0 ≤ d ∧ d ≤ D then cB ((σ r_Md_leads)) n D d else -1)) := by
  show en_wp k_X12_base 0 [some (.inr (.inr (r_Md, 0))), some (.inl d)] [] (srl σ []) (fun r σ' => r = some (.inl (if 0 ≤ d ∧ d ≤ D then cB ((σ r_Md_leads)) n D d else -1)) ∧ σ' = σ)
  have hI2 := hI
  obtain ⟨hO, hL, hn, hD, hp, hpw, hst⟩ := hI2
  obtain ⟨⟨hO1, hO2⟩, ⟨hO3, hO4⟩, hO5, hO6, hO7, hO8⟩ := id hO
  refine wp_run 2 (pc' := 2) (ls' := [some (.inr (.inr (r_Md, 0))), some (.inl d)]) (st' := [.inl d, .inr (.inr (r_Md, 0))]) (σ' := srl σ []) rfl ?_
  refine wp_fnv (v := .inl (bI (0 ≤ d ∧ d ≤ D))) rfl rfl rfl rfl (ct_X12_isDegree σ n D p d hI (by omega)) ?_
  show en_wp k_X12_base 5 [some (.inr (.inr (r_Md, 0))), some (.inl d)] [.inl (bI (0 ≤ d ∧ d ≤ D))] (srl σ []) _
  refine wp_if_eqb rfl (fun h_1 => ?_) (fun h_1 => ?_)
  · show en_wp k_X12_base 16 [some (.inr (.inr (r_Md, 0))), some (.inl d)] [] (srl σ []) _
    refine wp_run 1 (pc' := 17) (ls' := [some (.inr (.inr (r_Md, 0))), some (.inl d)]) (st' := [.inl (-1)]) (σ' := srl σ []) rfl ?_
    exact wp_iret rfl ⟨(by repeat (first | rfl | rw [if_pos (by omega)] | rw [if_neg (by omega)])), rfl⟩
  · show en_wp k_X12_base 8 [some (.inr (.inr (r_Md, 0))), some (.inl d)] [] (srl σ []) _
    refine wp_run 2 (pc' := 10) (ls' := [some (.inr (.inr (r_Md, 0))), some (.inl d)]) (st' := [.inl d, .inr (.inr (r_Md, 0))]) (σ' := srl σ []) rfl ?_
    refine wp_fnv (v := .inl (cB ((σ r_Md_leads)) n D d)) rfl rfl rfl rfl (ct_X12_baseOf σ n D p d hI (by omega) hlead) ?_
    show en_wp k_X12_base 13 [some (.inr (.inr (r_Md, 0))), some (.inl d)] [.inl (cB ((σ r_Md_leads)) n D d)] (srl σ []) _
    have q_2 : 0 ≤ cB ((σ r_Md_leads)) n D d ∧ cB ((σ r_Md_leads)) n D d ≤ 256 := cB_b _ hO
    refine wp_run 1 (pc' := 17) (ls' := [some (.inr (.inr (r_Md, 0))), some (.inl d)]) (st' := [.inl (cB ((σ r_Md_leads)) n D d)]) (σ' := srl σ []) rfl ?_
    exact wp_iret rfl ⟨(by repeat (first | rfl | rw [if_pos (by omega)] | rw [if_neg (by omega)])), rfl⟩
theorem ct_X12_normal (σ : en_m) (n : Int) (D : Int) (p : Int) (d : Int) (i : Int) (hI : mI σ n D p) (h1 : i32 d) (h2 : i32 i) (hlead : R01 ((σ r_Md_leads))) : en_fn z_X12_normal [.inr (.inr (r_Md, 0)), .inl d, .inl i] σ (.inl (if 0 ≤ d ∧ d ≤ D then nth (fun w => bI ((σ r_Md_leads) (sS n D d + w) = 0)) i (sW n D d).toNat else -1)) := by
  show en_wp k_X12_normal 0 [some (.inr (.inr (r_Md, 0))), some (.inl d), some (.inl i), none, none] [] (srl σ []) (fun r σ' => r = some (.inl (if 0 ≤ d ∧ d ≤ D then nth (fun w => bI ((σ r_Md_leads) (sS n D d + w) = 0)) i (sW n D d).toNat else -1)) ∧ σ' = σ)
  have hI2 := hI
  obtain ⟨hO, hL, hn, hD, hp, hpw, hst⟩ := hI2
  obtain ⟨⟨hO1, hO2⟩, ⟨hO3, hO4⟩, hO5, hO6, hO7, hO8⟩ := id hO
  have hWb := sW_b (k := d) hO
  have L_19 : ∀ (N : Nat) (l : Int) (w : Int), (0 ≤ d ∧ d ≤ D) → (0 ≤ i) → (0 ≤ w ∧ w ≤ sW n D d) → (0 ≤ l ∧ l ≤ i ∧ l = i - sm (fun w => bI (σ r_Md_leads (sS n D d + w) = 0)) w.toNat) → (nth (fun w => bI (σ r_Md_leads (sS n D d + w) = 0)) i w.toNat = -1) → (sW n D d - w).toNat < N → en_wp k_X12_normal 19 [some (.inr (.inr (r_Md, 0))), some (.inl d), some (.inl i), some (.inl l), some (.inl w)] [] (srl σ []) (fun r σ' => r = some (.inl (if 0 ≤ d ∧ d ≤ D then nth (fun w => bI ((σ r_Md_leads) (sS n D d + w) = 0)) i (sW n D d).toNat else -1)) ∧ σ' = σ) := by
    intro N
    induction N with
    | zero => intro l w; intros; omega
    | succ N ih_19 =>
      intro l w hd hi hw hl hn1 hN_19
      refine wp_run 3 (pc' := 23) (ls' := [some (.inr (.inr (r_Md, 0))), some (.inl d), some (.inl i), some (.inl l), some (.inl w)]) (st' := [.inl d, .inr (.inr (r_Md, 0)), .inl w]) (σ' := srl σ []) rfl ?_
      refine wp_fnv (v := .inl (sW n D d)) rfl rfl rfl rfl (ct_X12_wide σ n D p d hI (by omega)) ?_
      show en_wp k_X12_normal 26 [some (.inr (.inr (r_Md, 0))), some (.inl d), some (.inl i), some (.inl l), some (.inl w)] [.inl (sW n D d), .inl w] (srl σ []) _
      have q_1 : 0 ≤ sW n D d ∧ sW n D d ≤ 256 := sW_b hO
      refine wp_ic_ge rfl (by omega) (by omega) (fun h_2 => ?_) (fun h_2 => ?_)
      · show en_wp k_X12_normal 58 [some (.inr (.inr (r_Md, 0))), some (.inl d), some (.inl i), some (.inl l), some (.inl w)] [] (srl σ []) _
        refine wp_run 1 (pc' := 59) (ls' := [some (.inr (.inr (r_Md, 0))), some (.inl d), some (.inl i), some (.inl l), some (.inl w)]) (st' := [.inl (-1)]) (σ' := srl σ []) rfl ?_
        exact wp_iret rfl ⟨(by rw [if_pos (by omega), show sW n D d = w by omega, hn1]), rfl⟩
      · show en_wp k_X12_normal 29 [some (.inr (.inr (r_Md, 0))), some (.inl d), some (.inl i), some (.inl l), some (.inl w)] [] (srl σ []) _
        refine wp_run 3 (pc' := 33) (ls' := [some (.inr (.inr (r_Md, 0))), some (.inl d), some (.inl i), some (.inl l), some (.inl w)]) (st' := [.inl w, .inl d, .inr (.inr (r_Md, 0))]) (σ' := srl σ []) rfl ?_
        refine wp_fnv (v := .inl (bI ((σ r_Md_leads) (sS n D d + w) = 0))) rfl rfl rfl rfl (ct_X12_isNormal σ n D p d w hI (by omega) (by omega) hlead) ?_
        show en_wp k_X12_normal 36 [some (.inr (.inr (r_Md, 0))), some (.inl d), some (.inl i), some (.inl l), some (.inl w)] [.inl (bI ((σ r_Md_leads) (sS n D d + w) = 0))] (srl σ []) _
        refine wp_if_neb rfl (fun h_3 => ?_) (fun h_3 => ?_)
        · show en_wp k_X12_normal 42 [some (.inr (.inr (r_Md, 0))), some (.inl d), some (.inl i), some (.inl l), some (.inl w)] [] (srl σ []) _
          refine wp_run 1 (pc' := 43) (ls' := [some (.inr (.inr (r_Md, 0))), some (.inl d), some (.inl i), some (.inl l), some (.inl w)]) (st' := [.inl l]) (σ' := srl σ []) rfl ?_
          
          refine wp_if_ne rfl (by omega) (fun h_4 => ?_) (fun h_4 => ?_)
          · show en_wp k_X12_normal 49 [some (.inr (.inr (r_Md, 0))), some (.inl d), some (.inl i), some (.inl l), some (.inl w)] [] (srl σ []) _
            refine wp_run 3 (pc' := 19) (ls' := [some (.inr (.inr (r_Md, 0))), some (.inl d), some (.inl i), some (.inl (l + (-1))), some (.inl (w + 1))]) (st' := []) (σ' := srl σ []) rfl ?_
            exact ih_19 (l + (-1)) (w + 1) (by omega) (by omega) (by omega) ⟨by omega, by omega, by rw [hl.2.2, sm_s _ hw.1, bI_t (by assumption)]; omega⟩ (nth_miss hw.1 hn1 (.inr (by omega))) (by omega)
          · show en_wp k_X12_normal 46 [some (.inr (.inr (r_Md, 0))), some (.inl d), some (.inl i), some (.inl l), some (.inl w)] [] (srl σ []) _
            refine wp_run 1 (pc' := 48) (ls' := [some (.inr (.inr (r_Md, 0))), some (.inl d), some (.inl i), some (.inl l), some (.inl w)]) (st' := [.inl w]) (σ' := srl σ []) rfl ?_
            exact wp_iret rfl ⟨(by rw [if_pos (by omega), nth_hit hw.1 (by omega) hn1 (bI_t (by assumption)) (by omega)]), rfl⟩
        · show en_wp k_X12_normal 39 [some (.inr (.inr (r_Md, 0))), some (.inl d), some (.inl i), some (.inl l), some (.inl w)] [] (srl σ []) _
          refine wp_run 3 (pc' := 19) (ls' := [some (.inr (.inr (r_Md, 0))), some (.inl d), some (.inl i), some (.inl l), some (.inl (w + 1))]) (st' := []) (σ' := srl σ []) rfl ?_
          exact ih_19 l (w + 1) (by omega) (by omega) (by omega) ⟨by omega, by omega, by rw [hl.2.2, sm_s _ hw.1, bI_f (by assumption), Int.add_zero]⟩ (nth_miss hw.1 hn1 (.inl (by rw [bI_f (by assumption)]; decide))) (by omega)
  refine wp_run 2 (pc' := 2) (ls' := [some (.inr (.inr (r_Md, 0))), some (.inl d), some (.inl i), none, none]) (st' := [.inl d, .inr (.inr (r_Md, 0))]) (σ' := srl σ []) rfl ?_
  refine wp_fnv (v := .inl (bI (0 ≤ d ∧ d ≤ D))) rfl rfl rfl rfl (ct_X12_isDegree σ n D p d hI (by omega)) ?_
  show en_wp k_X12_normal 5 [some (.inr (.inr (r_Md, 0))), some (.inl d), some (.inl i), none, none] [.inl (bI (0 ≤ d ∧ d ≤ D))] (srl σ []) _
  refine wp_if_eqb rfl (fun h_5 => ?_) (fun h_5 => ?_)
  · show en_wp k_X12_normal 12 [some (.inr (.inr (r_Md, 0))), some (.inl d), some (.inl i), none, none] [] (srl σ []) _
    refine wp_run 1 (pc' := 13) (ls' := [some (.inr (.inr (r_Md, 0))), some (.inl d), some (.inl i), none, none]) (st' := [.inl (-1)]) (σ' := srl σ []) rfl ?_
    exact wp_iret rfl ⟨(by by_cases hc : 0 ≤ d ∧ d ≤ D <;> first | rw [if_neg hc] | rw [if_pos hc, nth_neg (fun _ => bI_nn _) (by omega)]), rfl⟩
  · show en_wp k_X12_normal 8 [some (.inr (.inr (r_Md, 0))), some (.inl d), some (.inl i), none, none] [] (srl σ []) _
    refine wp_run 1 (pc' := 9) (ls' := [some (.inr (.inr (r_Md, 0))), some (.inl d), some (.inl i), none, none]) (st' := [.inl i]) (σ' := srl σ []) rfl ?_
    refine wp_if_ge rfl (by omega) (fun h_6 => ?_) (fun h_6 => ?_)
    · show en_wp k_X12_normal 14 [some (.inr (.inr (r_Md, 0))), some (.inl d), some (.inl i), none, none] [] (srl σ []) _
      refine wp_run 4 (pc' := 19) (ls' := [some (.inr (.inr (r_Md, 0))), some (.inl d), some (.inl i), some (.inl i), some (.inl 0)]) (st' := []) (σ' := srl σ []) rfl ?_
      exact L_19 _ i 0 (by omega) (by omega) (by omega) ⟨by omega, by omega, by show i = i - 0; omega⟩ rfl (Nat.lt_succ_self _)
    · show en_wp k_X12_normal 12 [some (.inr (.inr (r_Md, 0))), some (.inl d), some (.inl i), none, none] [] (srl σ []) _
      refine wp_run 1 (pc' := 13) (ls' := [some (.inr (.inr (r_Md, 0))), some (.inl d), some (.inl i), none, none]) (st' := [.inl (-1)]) (σ' := srl σ []) rfl ?_
      exact wp_iret rfl ⟨(by by_cases hc : 0 ≤ d ∧ d ≤ D <;> first | rw [if_neg hc] | rw [if_pos hc, nth_neg (fun _ => bI_nn _) (by omega)]), rfl⟩
theorem ct_X12_baseAt (σ : en_m) (n : Int) (D : Int) (p : Int) (d : Int) (i : Int) (hI : mI σ n D p) (h1 : i32 d) (h2 : i32 i) (hlead : R01 ((σ r_Md_leads))) : en_fn z_X12_baseAt [.inr (.inr (r_Md, 0)), .inl d, .inl i] σ (.inl (if 0 ≤ d ∧ d ≤ D then nth (fun w => bI (isB ((σ r_Md_leads)) n D d w)) i (sW n D d).toNat else -1)) := by
  show en_wp k_X12_baseAt 0 [some (.inr (.inr (r_Md, 0))), some (.inl d), some (.inl i), none, none] [] (srl σ []) (fun r σ' => r = some (.inl (if 0 ≤ d ∧ d ≤ D then nth (fun w => bI (isB ((σ r_Md_leads)) n D d w)) i (sW n D d).toNat else -1)) ∧ σ' = σ)
  have hI2 := hI
  obtain ⟨hO, hL, hn, hD, hp, hpw, hst⟩ := hI2
  obtain ⟨⟨hO1, hO2⟩, ⟨hO3, hO4⟩, hO5, hO6, hO7, hO8⟩ := id hO
  have hWb := sW_b (k := d) hO
  have L_19 : ∀ (N : Nat) (l : Int) (w : Int), (0 ≤ d ∧ d ≤ D) → (0 ≤ i) → (0 ≤ w ∧ w ≤ sW n D d) → (0 ≤ l ∧ l ≤ i ∧ l = i - sm (fun w => bI (isB (σ r_Md_leads) n D d w)) w.toNat) → (nth (fun w => bI (isB (σ r_Md_leads) n D d w)) i w.toNat = -1) → (sW n D d - w).toNat < N → en_wp k_X12_baseAt 19 [some (.inr (.inr (r_Md, 0))), some (.inl d), some (.inl i), some (.inl l), some (.inl w)] [] (srl σ []) (fun r σ' => r = some (.inl (if 0 ≤ d ∧ d ≤ D then nth (fun w => bI (isB ((σ r_Md_leads)) n D d w)) i (sW n D d).toNat else -1)) ∧ σ' = σ) := by
    intro N
    induction N with
    | zero => intro l w; intros; omega
    | succ N ih_19 =>
      intro l w hd hi hw hl hn1 hN_19
      refine wp_run 3 (pc' := 23) (ls' := [some (.inr (.inr (r_Md, 0))), some (.inl d), some (.inl i), some (.inl l), some (.inl w)]) (st' := [.inl d, .inr (.inr (r_Md, 0)), .inl w]) (σ' := srl σ []) rfl ?_
      refine wp_fnv (v := .inl (sW n D d)) rfl rfl rfl rfl (ct_X12_wide σ n D p d hI (by omega)) ?_
      show en_wp k_X12_baseAt 26 [some (.inr (.inr (r_Md, 0))), some (.inl d), some (.inl i), some (.inl l), some (.inl w)] [.inl (sW n D d), .inl w] (srl σ []) _
      have q_1 : 0 ≤ sW n D d ∧ sW n D d ≤ 256 := sW_b hO
      refine wp_ic_ge rfl (by omega) (by omega) (fun h_2 => ?_) (fun h_2 => ?_)
      · show en_wp k_X12_baseAt 58 [some (.inr (.inr (r_Md, 0))), some (.inl d), some (.inl i), some (.inl l), some (.inl w)] [] (srl σ []) _
        refine wp_run 1 (pc' := 59) (ls' := [some (.inr (.inr (r_Md, 0))), some (.inl d), some (.inl i), some (.inl l), some (.inl w)]) (st' := [.inl (-1)]) (σ' := srl σ []) rfl ?_
        exact wp_iret rfl ⟨(by rw [if_pos (by omega), show sW n D d = w by omega, hn1]), rfl⟩
      · show en_wp k_X12_baseAt 29 [some (.inr (.inr (r_Md, 0))), some (.inl d), some (.inl i), some (.inl l), some (.inl w)] [] (srl σ []) _
        refine wp_run 3 (pc' := 33) (ls' := [some (.inr (.inr (r_Md, 0))), some (.inl d), some (.inl i), some (.inl l), some (.inl w)]) (st' := [.inl w, .inl d, .inr (.inr (r_Md, 0))]) (σ' := srl σ []) rfl ?_
        refine wp_fnv (v := .inl (bI (isB ((σ r_Md_leads)) n D d w))) rfl rfl rfl rfl (ct_X12_isBase σ n D p d w hI (by omega) (by omega) hlead) ?_
        show en_wp k_X12_baseAt 36 [some (.inr (.inr (r_Md, 0))), some (.inl d), some (.inl i), some (.inl l), some (.inl w)] [.inl (bI (isB ((σ r_Md_leads)) n D d w))] (srl σ []) _
        refine wp_if_neb rfl (fun h_3 => ?_) (fun h_3 => ?_)
        · show en_wp k_X12_baseAt 42 [some (.inr (.inr (r_Md, 0))), some (.inl d), some (.inl i), some (.inl l), some (.inl w)] [] (srl σ []) _
          refine wp_run 1 (pc' := 43) (ls' := [some (.inr (.inr (r_Md, 0))), some (.inl d), some (.inl i), some (.inl l), some (.inl w)]) (st' := [.inl l]) (σ' := srl σ []) rfl ?_
          
          refine wp_if_ne rfl (by omega) (fun h_4 => ?_) (fun h_4 => ?_)
          · show en_wp k_X12_baseAt 49 [some (.inr (.inr (r_Md, 0))), some (.inl d), some (.inl i), some (.inl l), some (.inl w)] [] (srl σ []) _
            refine wp_run 3 (pc' := 19) (ls' := [some (.inr (.inr (r_Md, 0))), some (.inl d), some (.inl i), some (.inl (l + (-1))), some (.inl (w + 1))]) (st' := []) (σ' := srl σ []) rfl ?_
            exact ih_19 (l + (-1)) (w + 1) (by omega) (by omega) (by omega) ⟨by omega, by omega, by rw [hl.2.2, sm_s _ hw.1, bI_t (by assumption)]; omega⟩ (nth_miss hw.1 hn1 (.inr (by omega))) (by omega)
          · show en_wp k_X12_baseAt 46 [some (.inr (.inr (r_Md, 0))), some (.inl d), some (.inl i), some (.inl l), some (.inl w)] [] (srl σ []) _
            refine wp_run 1 (pc' := 48) (ls' := [some (.inr (.inr (r_Md, 0))), some (.inl d), some (.inl i), some (.inl l), some (.inl w)]) (st' := [.inl w]) (σ' := srl σ []) rfl ?_
            exact wp_iret rfl ⟨(by rw [if_pos (by omega), nth_hit hw.1 (by omega) hn1 (bI_t (by assumption)) (by omega)]), rfl⟩
        · show en_wp k_X12_baseAt 39 [some (.inr (.inr (r_Md, 0))), some (.inl d), some (.inl i), some (.inl l), some (.inl w)] [] (srl σ []) _
          refine wp_run 3 (pc' := 19) (ls' := [some (.inr (.inr (r_Md, 0))), some (.inl d), some (.inl i), some (.inl l), some (.inl (w + 1))]) (st' := []) (σ' := srl σ []) rfl ?_
          exact ih_19 l (w + 1) (by omega) (by omega) (by omega) ⟨by omega, by omega, by rw [hl.2.2, sm_s _ hw.1, bI_f (by assumption), Int.add_zero]⟩ (nth_miss hw.1 hn1 (.inl (by rw [bI_f (by assumption)]; decide))) (by omega)
  refine wp_run 2 (pc' := 2) (ls' := [some (.inr (.inr (r_Md, 0))), some (.inl d), some (.inl i), none, none]) (st' := [.inl d, .inr (.inr (r_Md, 0))]) (σ' := srl σ []) rfl ?_
  refine wp_fnv (v := .inl (bI (0 ≤ d ∧ d ≤ D))) rfl rfl rfl rfl (ct_X12_isDegree σ n D p d hI (by omega)) ?_
  show en_wp k_X12_baseAt 5 [some (.inr (.inr (r_Md, 0))), some (.inl d), some (.inl i), none, none] [.inl (bI (0 ≤ d ∧ d ≤ D))] (srl σ []) _
  refine wp_if_eqb rfl (fun h_5 => ?_) (fun h_5 => ?_)
  · show en_wp k_X12_baseAt 12 [some (.inr (.inr (r_Md, 0))), some (.inl d), some (.inl i), none, none] [] (srl σ []) _
    refine wp_run 1 (pc' := 13) (ls' := [some (.inr (.inr (r_Md, 0))), some (.inl d), some (.inl i), none, none]) (st' := [.inl (-1)]) (σ' := srl σ []) rfl ?_
    exact wp_iret rfl ⟨(by by_cases hc : 0 ≤ d ∧ d ≤ D <;> first | rw [if_neg hc] | rw [if_pos hc, nth_neg (fun _ => bI_nn _) (by omega)]), rfl⟩
  · show en_wp k_X12_baseAt 8 [some (.inr (.inr (r_Md, 0))), some (.inl d), some (.inl i), none, none] [] (srl σ []) _
    refine wp_run 1 (pc' := 9) (ls' := [some (.inr (.inr (r_Md, 0))), some (.inl d), some (.inl i), none, none]) (st' := [.inl i]) (σ' := srl σ []) rfl ?_
    refine wp_if_ge rfl (by omega) (fun h_6 => ?_) (fun h_6 => ?_)
    · show en_wp k_X12_baseAt 14 [some (.inr (.inr (r_Md, 0))), some (.inl d), some (.inl i), none, none] [] (srl σ []) _
      refine wp_run 4 (pc' := 19) (ls' := [some (.inr (.inr (r_Md, 0))), some (.inl d), some (.inl i), some (.inl i), some (.inl 0)]) (st' := []) (σ' := srl σ []) rfl ?_
      exact L_19 _ i 0 (by omega) (by omega) (by omega) ⟨by omega, by omega, by show i = i - 0; omega⟩ rfl (Nat.lt_succ_self _)
    · show en_wp k_X12_baseAt 12 [some (.inr (.inr (r_Md, 0))), some (.inl d), some (.inl i), none, none] [] (srl σ []) _
      refine wp_run 1 (pc' := 13) (ls' := [some (.inr (.inr (r_Md, 0))), some (.inl d), some (.inl i), none, none]) (st' := [.inl (-1)]) (σ' := srl σ []) rfl ?_
      exact wp_iret rfl ⟨(by by_cases hc : 0 ≤ d ∧ d ≤ D <;> first | rw [if_neg hc] | rw [if_pos hc, nth_neg (fun _ => bI_nn _) (by omega)]), rfl⟩
theorem ct_X12_plainWord (σ : en_m) (n : Int) (D : Int) (p : Int) (LW : Int → (Int → Int) → Prop) (d : Int) (w : Int) (hI : mI σ n D p) (hd : 0 ≤ d ∧ d ≤ D) (h1 : i32 w) (hrow : R97 ((σ r_Md_row))) (hna : mNall ((σ r_Md_rowStart)) ((σ r_Md_rows)) ((σ r_Md_leads)) ((σ r_Md_sizes)) n D p LW) : en_ct z_X12_plainWord [.inr (.inr (r_Md, 0)), .inl d, .inl w] σ (fun r σ' => ∃ (f_Md_row : Int → Int), r = none ∧ σ' = srl σ [(r_Md_row, f_Md_row)] ∧ (isNF p (sW n D d) (nV n D p LW (d).toNat) (eW w) f_Md_row) ∧ (R97 f_Md_row)) := by
  show en_wp k_X12_plainWord 0 [some (.inr (.inr (r_Md, 0))), some (.inl d), some (.inl w), none] [] (srl σ []) (fun r σ' => ∃ (f_Md_row : Int → Int), r = none ∧ σ' = srl σ [(r_Md_row, f_Md_row)] ∧ (isNF p (sW n D d) (nV n D p LW (d).toNat) (eW w) f_Md_row) ∧ (R97 f_Md_row))
  have hI2 := hI
  obtain ⟨hO, hL, hn, hD, hp, hpw, hst⟩ := hI2
  obtain ⟨⟨hO1, hO2⟩, ⟨hO3, hO4⟩, hO5, hO6, hO7, hO8⟩ := id hO
  have hWb := sW_b (k := d) hO
  obtain ⟨hN1, hN2, hN3⟩ := id hna
  have hNd := hN1 d hd.1 hd.2
  have L_2 : ∀ (N : Nat) (k : Int) (B : Int → Int), (0 ≤ k ∧ k ≤ sW n D d) → (B = seg (σ r_Md_row) 0 k (eW w)) → (sW n D d - k).toNat < N → en_wp k_X12_plainWord 2 [some (.inr (.inr (r_Md, 0))), some (.inl d), some (.inl w), some (.inl k)] [] (srl σ [(r_Md_row, B)]) (fun r σ' => ∃ (f_Md_row : Int → Int), r = none ∧ σ' = srl σ [(r_Md_row, f_Md_row)] ∧ (isNF p (sW n D d) (nV n D p LW (d).toNat) (eW w) f_Md_row) ∧ (R97 f_Md_row)) := by
    intro N
    induction N with
    | zero => intro k B; intros; omega
    | succ N ih_2 =>
      intro k B hk hB hN_2
      refine wp_run 3 (pc' := 5) (ls' := [some (.inr (.inr (r_Md, 0))), some (.inl d), some (.inl w), some (.inl k)]) (st' := [.inl d, .inr (.inr (r_Md, 0)), .inl k]) (σ' := srl σ [(r_Md_row, B)]) rfl ?_
      refine wp_fnv (v := .inl (sW n D d)) rfl rfl rfl rfl (ct_X12_wide (srl σ [(r_Md_row, B)]) n D p d hI (by omega)) ?_
      show en_wp k_X12_plainWord 8 [some (.inr (.inr (r_Md, 0))), some (.inl d), some (.inl w), some (.inl k)] [.inl (sW n D d), .inl k] (srl σ [(r_Md_row, B)]) _
      have q_1 : 0 ≤ sW n D d ∧ sW n D d ≤ 256 := sW_b hO
      refine wp_ic_ge rfl (by omega) (by omega) (fun h_2 => ?_) (fun h_2 => ?_)
      · show en_wp k_X12_plainWord 33 [some (.inr (.inr (r_Md, 0))), some (.inl d), some (.inl w), some (.inl k)] [] (srl σ [(r_Md_row, B)]) _
        refine wp_run 3 (pc' := 36) (ls' := [some (.inr (.inr (r_Md, 0))), some (.inl d), some (.inl w), some (.inl k)]) (st' := [.inl d, .inl 0, .inr (.inr (r_Md, 0))]) (σ' := srl σ [(r_Md_row, B)]) rfl ?_
        have hkW : k = sW n D d := by omega
        rw [hkW] at hB
        have hB97 : R97 B := by
          rw [hB]
          exact R97_seg hrow (fun j _ _ => by unfold eW; split <;> omega)
        have hBp : ∀ j, 0 ≤ j → j < sW n D d → 0 ≤ B j ∧ B j < p := fun j h8 h9 => by
          rw [hB, seg_in0 ⟨h8, h9⟩]
          unfold eW
          split <;> omega
        refine wp_callv rfl rfl rfl rfl (ct_X12_reduces (srl σ [(r_Md_row, B)]) n D p 0 d hI (by omega) (by omega) hNd.1 hB97 hN2 hN3 hBp (fun k h0 h1 e => hNd.2.1.2.1 k h0 h1 e)) ?_
        rintro _ _ ⟨f_3, r_4, rfl, rfl, p_5⟩
        have p_5 : rdI p (sW n D d) (fun x => (σ r_Md_leads) (400 * 0 + sS n D d + x)) (fun k x => (σ r_Md_rows) (70000 * 0 + sQ n D d + k * sW n D d + x)) (B) f_3 (-1) r_4 := p_5
        refine wp_bk (l2 := [(r_Md_row, f_3)]) rfl rfl ?_
        show en_wp k_X12_plainWord 39 [some (.inr (.inr (r_Md, 0))), some (.inl d), some (.inl w), some (.inl k)] [.inl r_4] (srl σ [(r_Md_row, f_3)]) _
        have hrd := p_5
        have hnf := nf_src (mD_sub hNd.2.1) (mD_rd hNd.2.1 hO.2.2.2 hrd) (b := eW w) (fun j h8 h9 => by rw [hB, seg_in0 ⟨h8, h9⟩])
        refine wp_run 1 (pc' := 40) (ls' := [some (.inr (.inr (r_Md, 0))), some (.inl d), some (.inl w), some (.inl k)]) (st' := []) (σ' := srl σ [(r_Md_row, f_3)]) rfl ?_
        exact wp_vret rfl ⟨f_3, rfl, srl_eq (l' := [(r_Md_row, f_3)]) (And.intro rfl trivial) (And.intro rfl trivial), ⟨hnf, hrd.1⟩⟩
      · show en_wp k_X12_plainWord 11 [some (.inr (.inr (r_Md, 0))), some (.inl d), some (.inl w), some (.inl k)] [] (srl σ [(r_Md_row, B)]) _
        refine wp_run 5 (pc' := 18) (ls' := [some (.inr (.inr (r_Md, 0))), some (.inl d), some (.inl w), some (.inl k)]) (st' := [.inl w, .inl k, .inl k, .inr (.inr (r_Md_row, 0))]) (σ' := srl σ [(r_Md_row, B)]) rfl ?_
        refine wp_ic_ne rfl (by omega) (by omega) (fun h_6 => ?_) (fun h_6 => ?_)
        · show en_wp k_X12_plainWord 25 [some (.inr (.inr (r_Md, 0))), some (.inl d), some (.inl w), some (.inl k)] [.inl k, .inr (.inr (r_Md_row, 0))] (srl σ [(r_Md_row, B)]) _
          refine wp_run 1 (pc' := 26) (ls' := [some (.inr (.inr (r_Md, 0))), some (.inl d), some (.inl w), some (.inl k)]) (st' := [.inl 0, .inl k, .inr (.inr (r_Md_row, 0))]) (σ' := srl σ [(r_Md_row, B)]) rfl ?_
          refine wp_iast0 rfl rfl (by omega) (wp_wr (l2 := [(r_Md_row, (up B k 0))]) rfl ?_)
          show en_wp k_X12_plainWord 27 [some (.inr (.inr (r_Md, 0))), some (.inl d), some (.inl w), some (.inl k)] [] (srl σ [(r_Md_row, (up B k 0))]) _
          refine wp_run 2 (pc' := 2) (ls' := [some (.inr (.inr (r_Md, 0))), some (.inl d), some (.inl w), some (.inl (k + 1))]) (st' := []) (σ' := srl σ [(r_Md_row, (up B k 0))]) rfl ?_
          exact ih_2 (k + 1) (up B k 0) (by omega) (by rw [hB]; exact seg_up0 hk.1 (by unfold eW; first | rw [if_pos (by assumption)] | rw [if_neg (by assumption)])) (by omega)
        · show en_wp k_X12_plainWord 21 [some (.inr (.inr (r_Md, 0))), some (.inl d), some (.inl w), some (.inl k)] [.inl k, .inr (.inr (r_Md_row, 0))] (srl σ [(r_Md_row, B)]) _
          refine wp_run 2 (pc' := 26) (ls' := [some (.inr (.inr (r_Md, 0))), some (.inl d), some (.inl w), some (.inl k)]) (st' := [.inl 1, .inl k, .inr (.inr (r_Md_row, 0))]) (σ' := srl σ [(r_Md_row, B)]) rfl ?_
          refine wp_iast0 rfl rfl (by omega) (wp_wr (l2 := [(r_Md_row, (up B k 1))]) rfl ?_)
          show en_wp k_X12_plainWord 27 [some (.inr (.inr (r_Md, 0))), some (.inl d), some (.inl w), some (.inl k)] [] (srl σ [(r_Md_row, (up B k 1))]) _
          refine wp_run 2 (pc' := 2) (ls' := [some (.inr (.inr (r_Md, 0))), some (.inl d), some (.inl w), some (.inl (k + 1))]) (st' := []) (σ' := srl σ [(r_Md_row, (up B k 1))]) rfl ?_
          exact ih_2 (k + 1) (up B k 1) (by omega) (by rw [hB]; exact seg_up0 hk.1 (by unfold eW; first | rw [if_pos (by assumption)] | rw [if_neg (by assumption)])) (by omega)
  refine wp_run 2 (pc' := 2) (ls' := [some (.inr (.inr (r_Md, 0))), some (.inl d), some (.inl w), some (.inl 0)]) (st' := []) (σ' := srl σ []) rfl ?_
  refine wp_mem (srl_eq (l' := [(r_Md_row, (σ r_Md_row))]) trivial (And.intro rfl trivial)) ?_
  exact L_2 _ 0 (σ r_Md_row) (by omega) (seg_0 _ _ _).symm (Nat.lt_succ_self _)
