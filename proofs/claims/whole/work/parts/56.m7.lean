/-! contracts of methods, walked (written by wip/whole/walk.py from the annotations ann_m7) -/
theorem ct_X12_form (σ : en_m) (n : Int) (D : Int) (p : Int) (LW : Int → (Int → Int) → Prop) (w : Int) (o : Int) (hI : mI σ n D p) (h1 : i32 w) (h2 : i32 o) (hrow : R97 ((σ r_Md_row))) (hna : mNall ((σ r_Md_rowStart)) ((σ r_Md_rows)) ((σ r_Md_leads)) ((σ r_Md_sizes)) n D p LW) : en_ct z_X12_form [.inr (.inr (r_Md, 0)), .inl w, .inl o] σ (fun r σ' => ∃ (f_Md_row : Int → Int), ∃ (rr : Int), r = some (.inl rr) ∧ σ' = srl σ [(r_Md_row, f_Md_row)] ∧ (if 0 ≤ sAt n D w ∧ 0 ≤ sAt n D o then (if w / 1000 = o / 1000 then ∃ X, isNF p (sW n D (o / 1000)) (nV n D p LW (o / 1000).toNat) (eW (o % 1000)) X ∧ rr = X (w % 1000) else rr = 0) else rr = -1) ∧ (R97 f_Md_row)) := by
  show en_wp k_X12_form 0 [some (.inr (.inr (r_Md, 0))), some (.inl w), some (.inl o)] [] (srl σ []) (fun r σ' => ∃ (f_Md_row : Int → Int), ∃ (rr : Int), r = some (.inl rr) ∧ σ' = srl σ [(r_Md_row, f_Md_row)] ∧ (if 0 ≤ sAt n D w ∧ 0 ≤ sAt n D o then (if w / 1000 = o / 1000 then ∃ X, isNF p (sW n D (o / 1000)) (nV n D p LW (o / 1000).toNat) (eW (o % 1000)) X ∧ rr = X (w % 1000) else rr = 0) else rr = -1) ∧ (R97 f_Md_row))
  have hI2 := hI
  obtain ⟨hO, hL, hn, hD, hp, hpw, hst⟩ := hI2
  obtain ⟨⟨hO1, hO2⟩, ⟨hO3, hO4⟩, hO5, hO6, hO7, hO8⟩ := id hO
  obtain ⟨hN1, hN2, hN3⟩ := id hna
  refine wp_run 2 (pc' := 2) (ls' := [some (.inr (.inr (r_Md, 0))), some (.inl w), some (.inl o)]) (st' := [.inl w, .inr (.inr (r_Md, 0))]) (σ' := srl σ []) rfl ?_
  refine wp_fnv (v := .inl (sAt n D w)) rfl rfl rfl rfl (ct_X12_wordAt σ n D p w hI (by omega)) ?_
  show en_wp k_X12_form 5 [some (.inr (.inr (r_Md, 0))), some (.inl w), some (.inl o)] [.inl (sAt n D w)] (srl σ []) _
  have q_1 : -1 ≤ sAt n D w ∧ sAt n D w < 364 := sAt_b hO
  refine wp_if_lt rfl (by omega) (fun h_2 => ?_) (fun h_2 => ?_)
  · show en_wp k_X12_form 16 [some (.inr (.inr (r_Md, 0))), some (.inl w), some (.inl o)] [] (srl σ []) _
    refine wp_run 1 (pc' := 17) (ls' := [some (.inr (.inr (r_Md, 0))), some (.inl w), some (.inl o)]) (st' := [.inl (-1)]) (σ' := srl σ []) rfl ?_
    exact wp_iret rfl ⟨(σ r_Md_row), (-1), rfl, srl_eq (l' := [(r_Md_row, σ r_Md_row)]) trivial (And.intro rfl trivial), ⟨by rw [if_neg (by omega)], hrow⟩⟩
  · show en_wp k_X12_form 8 [some (.inr (.inr (r_Md, 0))), some (.inl w), some (.inl o)] [] (srl σ []) _
    refine wp_run 2 (pc' := 10) (ls' := [some (.inr (.inr (r_Md, 0))), some (.inl w), some (.inl o)]) (st' := [.inl o, .inr (.inr (r_Md, 0))]) (σ' := srl σ []) rfl ?_
    refine wp_fnv (v := .inl (sAt n D o)) rfl rfl rfl rfl (ct_X12_wordAt σ n D p o hI (by omega)) ?_
    show en_wp k_X12_form 13 [some (.inr (.inr (r_Md, 0))), some (.inl w), some (.inl o)] [.inl (sAt n D o)] (srl σ []) _
    have q_3 : -1 ≤ sAt n D o ∧ sAt n D o < 364 := sAt_b hO
    refine wp_if_ge rfl (by omega) (fun h_4 => ?_) (fun h_4 => ?_)
    · have hgo := sAt_p h_4
      have hgw := sAt_p (n := n) (D := D) (w := w) (by omega)
      have hwb := sW_b (k := o / 1000) hO
      have hwwb := sW_b (k := w / 1000) hO
      show en_wp k_X12_form 18 [some (.inr (.inr (r_Md, 0))), some (.inl w), some (.inl o)] [] (srl σ []) _
      refine wp_run 2 (pc' := 22) (ls' := [some (.inr (.inr (r_Md, 0))), some (.inl w), some (.inl o)]) (st' := [.inl 1000, .inl w]) (σ' := srl σ []) rfl ?_
      refine wp_idivp rfl (by omega) (by omega) ?_
      show en_wp k_X12_form 23 [some (.inr (.inr (r_Md, 0))), some (.inl w), some (.inl o)] [.inl (w / 1000)] (srl σ []) _
      refine wp_run 2 (pc' := 27) (ls' := [some (.inr (.inr (r_Md, 0))), some (.inl w), some (.inl o)]) (st' := [.inl 1000, .inl o, .inl (w / 1000)]) (σ' := srl σ []) rfl ?_
      refine wp_idivp rfl (by omega) (by omega) ?_
      show en_wp k_X12_form 28 [some (.inr (.inr (r_Md, 0))), some (.inl w), some (.inl o)] [.inl (o / 1000), .inl (w / 1000)] (srl σ []) _
      refine wp_ic_eq rfl (by omega) (by omega) (fun h_5 => ?_) (fun h_5 => ?_)
      · show en_wp k_X12_form 33 [some (.inr (.inr (r_Md, 0))), some (.inl w), some (.inl o)] [] (srl σ []) _
        refine wp_run 3 (pc' := 38) (ls' := [some (.inr (.inr (r_Md, 0))), some (.inl w), some (.inl o)]) (st' := [.inl 1000, .inl o, .inr (.inr (r_Md, 0))]) (σ' := srl σ []) rfl ?_
        refine wp_idivp rfl (by omega) (by omega) ?_
        show en_wp k_X12_form 39 [some (.inr (.inr (r_Md, 0))), some (.inl w), some (.inl o)] [.inl (o / 1000), .inr (.inr (r_Md, 0))] (srl σ []) _
        refine wp_run 2 (pc' := 43) (ls' := [some (.inr (.inr (r_Md, 0))), some (.inl w), some (.inl o)]) (st' := [.inl 1000, .inl o, .inl (o / 1000), .inr (.inr (r_Md, 0))]) (σ' := srl σ []) rfl ?_
        refine wp_iremp rfl (by omega) (by omega) ?_
        show en_wp k_X12_form 44 [some (.inr (.inr (r_Md, 0))), some (.inl w), some (.inl o)] [.inl (o % 1000), .inl (o / 1000), .inr (.inr (r_Md, 0))] (srl σ []) _
        refine wp_callv rfl rfl rfl rfl (ct_X12_plainWord σ n D p LW (o / 1000) (o % 1000) hI (by omega) (by omega) hrow hna) ?_
        rintro _ _ ⟨f_6, rfl, rfl, p_7, p_8⟩
        have p_7 : isNF p (sW n D (o / 1000)) (nV n D p LW ((o / 1000)).toNat) (eW (o % 1000)) f_6 := p_7
        have p_8 : R97 f_6 := p_8
        show en_wp k_X12_form 47 [some (.inr (.inr (r_Md, 0))), some (.inl w), some (.inl o)] [] (srl σ [(r_Md_row, f_6)]) _
        have kp := (⟨p_7, p_8⟩ : _ ∧ _)
        have hr9 := kp.2 (w % 1000)
        refine wp_run 4 (pc' := 55) (ls' := [some (.inr (.inr (r_Md, 0))), some (.inl w), some (.inl o)]) (st' := [.inl 1000, .inl w, .inr (.inr (r_Md_row, 0))]) (σ' := srl σ [(r_Md_row, f_6)]) rfl ?_
        refine wp_iremp rfl (by omega) (by omega) ?_
        show en_wp k_X12_form 56 [some (.inr (.inr (r_Md, 0))), some (.inl w), some (.inl o)] [.inl (w % 1000), .inr (.inr (r_Md_row, 0))] (srl σ [(r_Md_row, f_6)]) _
        refine wp_iald0 rfl rfl (by omega) ?_
        show en_wp k_X12_form 57 [some (.inr (.inr (r_Md, 0))), some (.inl w), some (.inl o)] [.inl (f_6 (w % 1000))] (srl σ [(r_Md_row, f_6)]) _
        exact wp_iret rfl ⟨f_6, (f_6 (w % 1000)), rfl, srl_eq (l' := [(r_Md_row, f_6)]) (And.intro rfl trivial) (And.intro rfl trivial), ⟨by rw [if_pos (by omega), if_pos (by assumption)]; exact ⟨_, kp.1, rfl⟩, kp.2⟩⟩
      · show en_wp k_X12_form 31 [some (.inr (.inr (r_Md, 0))), some (.inl w), some (.inl o)] [] (srl σ []) _
        refine wp_run 1 (pc' := 32) (ls' := [some (.inr (.inr (r_Md, 0))), some (.inl w), some (.inl o)]) (st' := [.inl 0]) (σ' := srl σ []) rfl ?_
        exact wp_iret rfl ⟨(σ r_Md_row), 0, rfl, srl_eq (l' := [(r_Md_row, σ r_Md_row)]) trivial (And.intro rfl trivial), ⟨by rw [if_pos (by omega), if_neg (by assumption)], hrow⟩⟩
    · show en_wp k_X12_form 16 [some (.inr (.inr (r_Md, 0))), some (.inl w), some (.inl o)] [] (srl σ []) _
      refine wp_run 1 (pc' := 17) (ls' := [some (.inr (.inr (r_Md, 0))), some (.inl w), some (.inl o)]) (st' := [.inl (-1)]) (σ' := srl σ []) rfl ?_
      exact wp_iret rfl ⟨(σ r_Md_row), (-1), rfl, srl_eq (l' := [(r_Md_row, σ r_Md_row)]) trivial (And.intro rfl trivial), ⟨by rw [if_neg (by omega)], hrow⟩⟩
theorem ct_X12_table (σ : en_m) (n : Int) (D : Int) (p : Int) (LW : Int → (Int → Int) → Prop) (u : Int) (v : Int) (w : Int) (hI : mI σ n D p) (h1 : i32 u) (h2 : i32 v) (h3 : i32 w) (hrow : R97 ((σ r_Md_row))) (hna : mNall ((σ r_Md_rowStart)) ((σ r_Md_rows)) ((σ r_Md_leads)) ((σ r_Md_sizes)) n D p LW) : en_ct z_X12_table [.inr (.inr (r_Md, 0)), .inl u, .inl v, .inl w] σ (fun r σ' => ∃ (f_Md_row : Int → Int), ∃ (rr : Int), r = some (.inl rr) ∧ σ' = srl σ [(r_Md_row, f_Md_row)] ∧ (if 0 ≤ sAt n D u ∧ 0 ≤ sAt n D v ∧ 0 ≤ sAt n D w then (if D < u / 1000 + v / 1000 then rr = -2 else if w / 1000 = u / 1000 + v / 1000 then ∃ X, isNF p (sW n D (u / 1000 + v / 1000)) (nV n D p LW (u / 1000 + v / 1000).toNat) (eW (u % 1000 * sW n D (v / 1000) + v % 1000)) X ∧ rr = X (w % 1000) else rr = 0) else rr = -1) ∧ (R97 f_Md_row)) := by
  show en_wp k_X12_table 0 [some (.inr (.inr (r_Md, 0))), some (.inl u), some (.inl v), some (.inl w), none] [] (srl σ []) (fun r σ' => ∃ (f_Md_row : Int → Int), ∃ (rr : Int), r = some (.inl rr) ∧ σ' = srl σ [(r_Md_row, f_Md_row)] ∧ (if 0 ≤ sAt n D u ∧ 0 ≤ sAt n D v ∧ 0 ≤ sAt n D w then (if D < u / 1000 + v / 1000 then rr = -2 else if w / 1000 = u / 1000 + v / 1000 then ∃ X, isNF p (sW n D (u / 1000 + v / 1000)) (nV n D p LW (u / 1000 + v / 1000).toNat) (eW (u % 1000 * sW n D (v / 1000) + v % 1000)) X ∧ rr = X (w % 1000) else rr = 0) else rr = -1) ∧ (R97 f_Md_row))
  have hI2 := hI
  obtain ⟨hO, hL, hn, hD, hp, hpw, hst⟩ := hI2
  obtain ⟨⟨hO1, hO2⟩, ⟨hO3, hO4⟩, hO5, hO6, hO7, hO8⟩ := id hO
  obtain ⟨hN1, hN2, hN3⟩ := id hna
  refine wp_run 2 (pc' := 2) (ls' := [some (.inr (.inr (r_Md, 0))), some (.inl u), some (.inl v), some (.inl w), none]) (st' := [.inl u, .inr (.inr (r_Md, 0))]) (σ' := srl σ []) rfl ?_
  refine wp_fnv (v := .inl (sAt n D u)) rfl rfl rfl rfl (ct_X12_wordAt σ n D p u hI (by omega)) ?_
  show en_wp k_X12_table 5 [some (.inr (.inr (r_Md, 0))), some (.inl u), some (.inl v), some (.inl w), none] [.inl (sAt n D u)] (srl σ []) _
  have q_1 : -1 ≤ sAt n D u ∧ sAt n D u < 364 := sAt_b hO
  refine wp_if_lt rfl (by omega) (fun h_2 => ?_) (fun h_2 => ?_)
  · show en_wp k_X12_table 24 [some (.inr (.inr (r_Md, 0))), some (.inl u), some (.inl v), some (.inl w), none] [] (srl σ []) _
    refine wp_run 1 (pc' := 25) (ls' := [some (.inr (.inr (r_Md, 0))), some (.inl u), some (.inl v), some (.inl w), none]) (st' := [.inl (-1)]) (σ' := srl σ []) rfl ?_
    exact wp_iret rfl ⟨(σ r_Md_row), (-1), rfl, srl_eq (l' := [(r_Md_row, σ r_Md_row)]) trivial (And.intro rfl trivial), ⟨by rw [if_neg (by omega)], hrow⟩⟩
  · show en_wp k_X12_table 8 [some (.inr (.inr (r_Md, 0))), some (.inl u), some (.inl v), some (.inl w), none] [] (srl σ []) _
    refine wp_run 2 (pc' := 10) (ls' := [some (.inr (.inr (r_Md, 0))), some (.inl u), some (.inl v), some (.inl w), none]) (st' := [.inl v, .inr (.inr (r_Md, 0))]) (σ' := srl σ []) rfl ?_
    refine wp_fnv (v := .inl (sAt n D v)) rfl rfl rfl rfl (ct_X12_wordAt σ n D p v hI (by omega)) ?_
    show en_wp k_X12_table 13 [some (.inr (.inr (r_Md, 0))), some (.inl u), some (.inl v), some (.inl w), none] [.inl (sAt n D v)] (srl σ []) _
    have q_3 : -1 ≤ sAt n D v ∧ sAt n D v < 364 := sAt_b hO
    refine wp_if_lt rfl (by omega) (fun h_4 => ?_) (fun h_4 => ?_)
    · show en_wp k_X12_table 24 [some (.inr (.inr (r_Md, 0))), some (.inl u), some (.inl v), some (.inl w), none] [] (srl σ []) _
      refine wp_run 1 (pc' := 25) (ls' := [some (.inr (.inr (r_Md, 0))), some (.inl u), some (.inl v), some (.inl w), none]) (st' := [.inl (-1)]) (σ' := srl σ []) rfl ?_
      exact wp_iret rfl ⟨(σ r_Md_row), (-1), rfl, srl_eq (l' := [(r_Md_row, σ r_Md_row)]) trivial (And.intro rfl trivial), ⟨by rw [if_neg (by omega)], hrow⟩⟩
    · show en_wp k_X12_table 16 [some (.inr (.inr (r_Md, 0))), some (.inl u), some (.inl v), some (.inl w), none] [] (srl σ []) _
      refine wp_run 2 (pc' := 18) (ls' := [some (.inr (.inr (r_Md, 0))), some (.inl u), some (.inl v), some (.inl w), none]) (st' := [.inl w, .inr (.inr (r_Md, 0))]) (σ' := srl σ []) rfl ?_
      refine wp_fnv (v := .inl (sAt n D w)) rfl rfl rfl rfl (ct_X12_wordAt σ n D p w hI (by omega)) ?_
      show en_wp k_X12_table 21 [some (.inr (.inr (r_Md, 0))), some (.inl u), some (.inl v), some (.inl w), none] [.inl (sAt n D w)] (srl σ []) _
      have q_5 : -1 ≤ sAt n D w ∧ sAt n D w < 364 := sAt_b hO
      refine wp_if_ge rfl (by omega) (fun h_6 => ?_) (fun h_6 => ?_)
      · have hgu := sAt_p (n := n) (D := D) (w := u) (by omega)
        have hgv := sAt_p (n := n) (D := D) (w := v) (by omega)
        have hgw := sAt_p h_6
        have hub := sW_b (k := u / 1000) hO
        have hvb := sW_b (k := v / 1000) hO
        have hwb := sW_b (k := w / 1000) hO
        have hmm := Int.mul_nonneg hgu.2.2.2.1 hvb.1
        have hmx : u % 1000 * sW n D (v / 1000) ≤ 256 * sW n D (v / 1000) := Int.mul_le_mul_of_nonneg_right (by omega) hvb.1
        show en_wp k_X12_table 26 [some (.inr (.inr (r_Md, 0))), some (.inl u), some (.inl v), some (.inl w), none] [] (srl σ []) _
        refine wp_run 2 (pc' := 30) (ls' := [some (.inr (.inr (r_Md, 0))), some (.inl u), some (.inl v), some (.inl w), none]) (st' := [.inl 1000, .inl u]) (σ' := srl σ []) rfl ?_
        refine wp_idivp rfl (by omega) (by omega) ?_
        show en_wp k_X12_table 31 [some (.inr (.inr (r_Md, 0))), some (.inl u), some (.inl v), some (.inl w), none] [.inl (u / 1000)] (srl σ []) _
        refine wp_run 2 (pc' := 35) (ls' := [some (.inr (.inr (r_Md, 0))), some (.inl u), some (.inl v), some (.inl w), none]) (st' := [.inl 1000, .inl v, .inl (u / 1000)]) (σ' := srl σ []) rfl ?_
        refine wp_idivp rfl (by omega) (by omega) ?_
        show en_wp k_X12_table 36 [some (.inr (.inr (r_Md, 0))), some (.inl u), some (.inl v), some (.inl w), none] [.inl (v / 1000), .inl (u / 1000)] (srl σ []) _
        refine wp_run 7 (pc' := 49) (ls' := [some (.inr (.inr (r_Md, 0))), some (.inl u), some (.inl v), some (.inl w), some (.inl ((u / 1000) + (v / 1000)))]) (st' := [.inl (σ r_Md_live 0), .inr (.inr (r_Md_degree, 0)), .inl ((u / 1000) + (v / 1000))]) (σ' := srl σ []) rfl ?_
        refine wp_iald0 rfl rfl (by omega) ?_
        show en_wp k_X12_table 50 [some (.inr (.inr (r_Md, 0))), some (.inl u), some (.inl v), some (.inl w), some (.inl ((u / 1000) + (v / 1000)))] [.inl (σ r_Md_degree (σ r_Md_live 0)), .inl ((u / 1000) + (v / 1000))] (srl σ []) _
        rw [hD]
        show en_wp k_X12_table 50 [some (.inr (.inr (r_Md, 0))), some (.inl u), some (.inl v), some (.inl w), some (.inl ((u / 1000) + (v / 1000)))] [.inl D, .inl ((u / 1000) + (v / 1000))] (srl σ []) _
        refine wp_ic_le rfl (by omega) (by omega) (fun h_7 => ?_) (fun h_7 => ?_)
        · show en_wp k_X12_table 56 [some (.inr (.inr (r_Md, 0))), some (.inl u), some (.inl v), some (.inl w), some (.inl ((u / 1000) + (v / 1000)))] [] (srl σ []) _
          refine wp_run 2 (pc' := 60) (ls' := [some (.inr (.inr (r_Md, 0))), some (.inl u), some (.inl v), some (.inl w), some (.inl ((u / 1000) + (v / 1000)))]) (st' := [.inl 1000, .inl w]) (σ' := srl σ []) rfl ?_
          refine wp_idivp rfl (by omega) (by omega) ?_
          show en_wp k_X12_table 61 [some (.inr (.inr (r_Md, 0))), some (.inl u), some (.inl v), some (.inl w), some (.inl ((u / 1000) + (v / 1000)))] [.inl (w / 1000)] (srl σ []) _
          refine wp_run 1 (pc' := 63) (ls' := [some (.inr (.inr (r_Md, 0))), some (.inl u), some (.inl v), some (.inl w), some (.inl ((u / 1000) + (v / 1000)))]) (st' := [.inl ((u / 1000) + (v / 1000)), .inl (w / 1000)]) (σ' := srl σ []) rfl ?_
          refine wp_ic_eq rfl (by omega) (by omega) (fun h_8 => ?_) (fun h_8 => ?_)
          · show en_wp k_X12_table 68 [some (.inr (.inr (r_Md, 0))), some (.inl u), some (.inl v), some (.inl w), some (.inl ((u / 1000) + (v / 1000)))] [] (srl σ []) _
            refine wp_run 4 (pc' := 75) (ls' := [some (.inr (.inr (r_Md, 0))), some (.inl u), some (.inl v), some (.inl w), some (.inl ((u / 1000) + (v / 1000)))]) (st' := [.inl 1000, .inl u, .inl ((u / 1000) + (v / 1000)), .inr (.inr (r_Md, 0))]) (σ' := srl σ []) rfl ?_
            refine wp_iremp rfl (by omega) (by omega) ?_
            show en_wp k_X12_table 76 [some (.inr (.inr (r_Md, 0))), some (.inl u), some (.inl v), some (.inl w), some (.inl ((u / 1000) + (v / 1000)))] [.inl (u % 1000), .inl ((u / 1000) + (v / 1000)), .inr (.inr (r_Md, 0))] (srl σ []) _
            refine wp_run 3 (pc' := 81) (ls' := [some (.inr (.inr (r_Md, 0))), some (.inl u), some (.inl v), some (.inl w), some (.inl ((u / 1000) + (v / 1000)))]) (st' := [.inl 1000, .inl v, .inr (.inr (r_Md, 0)), .inl (u % 1000), .inl ((u / 1000) + (v / 1000)), .inr (.inr (r_Md, 0))]) (σ' := srl σ []) rfl ?_
            refine wp_idivp rfl (by omega) (by omega) ?_
            show en_wp k_X12_table 82 [some (.inr (.inr (r_Md, 0))), some (.inl u), some (.inl v), some (.inl w), some (.inl ((u / 1000) + (v / 1000)))] [.inl (v / 1000), .inr (.inr (r_Md, 0)), .inl (u % 1000), .inl ((u / 1000) + (v / 1000)), .inr (.inr (r_Md, 0))] (srl σ []) _
            refine wp_fnv (v := .inl (sW n D (v / 1000))) rfl rfl rfl rfl (ct_X12_wide σ n D p (v / 1000) hI (by omega)) ?_
            show en_wp k_X12_table 85 [some (.inr (.inr (r_Md, 0))), some (.inl u), some (.inl v), some (.inl w), some (.inl ((u / 1000) + (v / 1000)))] [.inl (sW n D (v / 1000)), .inl (u % 1000), .inl ((u / 1000) + (v / 1000)), .inr (.inr (r_Md, 0))] (srl σ []) _
            have q_9 : 0 ≤ sW n D (v / 1000) ∧ sW n D (v / 1000) ≤ 256 := sW_b hO
            refine wp_run 3 (pc' := 90) (ls' := [some (.inr (.inr (r_Md, 0))), some (.inl u), some (.inl v), some (.inl w), some (.inl ((u / 1000) + (v / 1000)))]) (st' := [.inl 1000, .inl v, .inl ((u % 1000) * (sW n D (v / 1000))), .inl ((u / 1000) + (v / 1000)), .inr (.inr (r_Md, 0))]) (σ' := srl σ []) rfl ?_
            refine wp_iremp rfl (by omega) (by omega) ?_
            show en_wp k_X12_table 91 [some (.inr (.inr (r_Md, 0))), some (.inl u), some (.inl v), some (.inl w), some (.inl ((u / 1000) + (v / 1000)))] [.inl (v % 1000), .inl ((u % 1000) * (sW n D (v / 1000))), .inl ((u / 1000) + (v / 1000)), .inr (.inr (r_Md, 0))] (srl σ []) _
            refine wp_run 1 (pc' := 92) (ls' := [some (.inr (.inr (r_Md, 0))), some (.inl u), some (.inl v), some (.inl w), some (.inl ((u / 1000) + (v / 1000)))]) (st' := [.inl (((u % 1000) * (sW n D (v / 1000))) + (v % 1000)), .inl ((u / 1000) + (v / 1000)), .inr (.inr (r_Md, 0))]) (σ' := srl σ []) rfl ?_
            refine wp_callv rfl rfl rfl rfl (ct_X12_plainWord σ n D p LW ((u / 1000) + (v / 1000)) (((u % 1000) * (sW n D (v / 1000))) + (v % 1000)) hI (by omega) (by omega) hrow hna) ?_
            rintro _ _ ⟨f_10, rfl, rfl, p_11, p_12⟩
            have p_11 : isNF p (sW n D ((u / 1000) + (v / 1000))) (nV n D p LW (((u / 1000) + (v / 1000))).toNat) (eW (((u % 1000) * (sW n D (v / 1000))) + (v % 1000))) f_10 := p_11
            have p_12 : R97 f_10 := p_12
            show en_wp k_X12_table 95 [some (.inr (.inr (r_Md, 0))), some (.inl u), some (.inl v), some (.inl w), some (.inl ((u / 1000) + (v / 1000)))] [] (srl σ [(r_Md_row, f_10)]) _
            have kp := (⟨p_11, p_12⟩ : _ ∧ _)
            have hr9 := kp.2 (w % 1000)
            refine wp_run 4 (pc' := 103) (ls' := [some (.inr (.inr (r_Md, 0))), some (.inl u), some (.inl v), some (.inl w), some (.inl ((u / 1000) + (v / 1000)))]) (st' := [.inl 1000, .inl w, .inr (.inr (r_Md_row, 0))]) (σ' := srl σ [(r_Md_row, f_10)]) rfl ?_
            refine wp_iremp rfl (by omega) (by omega) ?_
            show en_wp k_X12_table 104 [some (.inr (.inr (r_Md, 0))), some (.inl u), some (.inl v), some (.inl w), some (.inl ((u / 1000) + (v / 1000)))] [.inl (w % 1000), .inr (.inr (r_Md_row, 0))] (srl σ [(r_Md_row, f_10)]) _
            refine wp_iald0 rfl rfl (by omega) ?_
            show en_wp k_X12_table 105 [some (.inr (.inr (r_Md, 0))), some (.inl u), some (.inl v), some (.inl w), some (.inl ((u / 1000) + (v / 1000)))] [.inl (f_10 (w % 1000))] (srl σ [(r_Md_row, f_10)]) _
            exact wp_iret rfl ⟨f_10, (f_10 (w % 1000)), rfl, srl_eq (l' := [(r_Md_row, f_10)]) (And.intro rfl trivial) (And.intro rfl trivial), ⟨by rw [if_pos (by omega), if_neg (by omega), if_pos (by assumption)]; exact ⟨_, kp.1, rfl⟩, kp.2⟩⟩
          · show en_wp k_X12_table 66 [some (.inr (.inr (r_Md, 0))), some (.inl u), some (.inl v), some (.inl w), some (.inl ((u / 1000) + (v / 1000)))] [] (srl σ []) _
            refine wp_run 1 (pc' := 67) (ls' := [some (.inr (.inr (r_Md, 0))), some (.inl u), some (.inl v), some (.inl w), some (.inl ((u / 1000) + (v / 1000)))]) (st' := [.inl 0]) (σ' := srl σ []) rfl ?_
            exact wp_iret rfl ⟨(σ r_Md_row), 0, rfl, srl_eq (l' := [(r_Md_row, σ r_Md_row)]) trivial (And.intro rfl trivial), ⟨by rw [if_pos (by omega), if_neg (by omega), if_neg (by assumption)], hrow⟩⟩
        · show en_wp k_X12_table 53 [some (.inr (.inr (r_Md, 0))), some (.inl u), some (.inl v), some (.inl w), some (.inl ((u / 1000) + (v / 1000)))] [] (srl σ []) _
          refine wp_run 1 (pc' := 55) (ls' := [some (.inr (.inr (r_Md, 0))), some (.inl u), some (.inl v), some (.inl w), some (.inl ((u / 1000) + (v / 1000)))]) (st' := [.inl (-2)]) (σ' := srl σ []) rfl ?_
          exact wp_iret rfl ⟨(σ r_Md_row), (-2), rfl, srl_eq (l' := [(r_Md_row, σ r_Md_row)]) trivial (And.intro rfl trivial), ⟨by rw [if_pos (by omega), if_pos (by omega)], hrow⟩⟩
      · show en_wp k_X12_table 24 [some (.inr (.inr (r_Md, 0))), some (.inl u), some (.inl v), some (.inl w), none] [] (srl σ []) _
        refine wp_run 1 (pc' := 25) (ls' := [some (.inr (.inr (r_Md, 0))), some (.inl u), some (.inl v), some (.inl w), none]) (st' := [.inl (-1)]) (σ' := srl σ []) rfl ?_
        exact wp_iret rfl ⟨(σ r_Md_row), (-1), rfl, srl_eq (l' := [(r_Md_row, σ r_Md_row)]) trivial (And.intro rfl trivial), ⟨by rw [if_neg (by omega)], hrow⟩⟩
theorem ct_X12_plains_Md_element (σ : en_m) (n : Int) (D : Int) (p : Int) (LW : Int → (Int → Int) → Prop) (f : Int) (hI : mI σ n D p) (hf : 0 ≤ f ∧ f + 364 ≤ 2400) (hof : R97 ((σ r_Md_element))) (hop : ∀ x, 0 ≤ x → x < sS n D (D + 1) → (σ r_Md_element) (f + x) < p) (hrow : R97 ((σ r_Md_row))) (hna : mNall ((σ r_Md_rowStart)) ((σ r_Md_rows)) ((σ r_Md_leads)) ((σ r_Md_sizes)) n D p LW) : en_ct z_X12_plains [.inr (.inr (r_Md, 0)), .inr (.inr (r_Md_element, 0)), .inl f] σ (fun r σ' => ∃ (f_Md_row : Int → Int), ∃ (f_Md_element : Int → Int), r = none ∧ σ' = srl σ [(r_Md_row, f_Md_row), (r_Md_element, f_Md_element)] ∧ (nfR n D p LW (fun x => (σ r_Md_element) (f + x)) (fun x => f_Md_element (f + x))) ∧ (∀ x, (x < f ∨ f + sS n D (D + 1) ≤ x) → f_Md_element x = (σ r_Md_element) x) ∧ (R97 f_Md_row) ∧ (R97 f_Md_element) ∧ (∀ x, 0 ≤ x → x < sS n D (D + 1) → f_Md_element (f + x) < p)) := by
  show en_wp k_X12_plains 0 [some (.inr (.inr (r_Md, 0))), some (.inr (.inr (r_Md_element, 0))), some (.inl f), none, none] [] (srl σ []) (fun r σ' => ∃ (f_Md_row : Int → Int), ∃ (f_Md_element : Int → Int), r = none ∧ σ' = srl σ [(r_Md_row, f_Md_row), (r_Md_element, f_Md_element)] ∧ (nfR n D p LW (fun x => (σ r_Md_element) (f + x)) (fun x => f_Md_element (f + x))) ∧ (∀ x, (x < f ∨ f + sS n D (D + 1) ≤ x) → f_Md_element x = (σ r_Md_element) x) ∧ (R97 f_Md_row) ∧ (R97 f_Md_element) ∧ (∀ x, 0 ≤ x → x < sS n D (D + 1) → f_Md_element (f + x) < p))
  have hI2 := hI
  obtain ⟨hO, hL, hn, hD, hp, hpw, hst⟩ := hI2
  obtain ⟨⟨hO1, hO2⟩, ⟨hO3, hO4⟩, hO5, hO6, hO7, hO8⟩ := id hO
  obtain ⟨hN1, hN2, hN3⟩ := id hna
  have hAb := sS_b (k := D + 1) hO
  have hof2 : ∀ x, 0 ≤ σ r_Md_element x ∧ σ r_Md_element x < 97 := hof
  have hop2 : ∀ x, 0 ≤ x → x < sS n D (D + 1) → σ r_Md_element (f + x) < p := hop
  have L_2 : ∀ (N : Nat) (d : Int) (A : Int → Int) (X : Int → Int), (1 ≤ d ∧ d ≤ D + 1) → (∀ e, 0 ≤ e → e < d → isNF p (sW n D e) (nV n D p LW e.toNat) (fun j => σ r_Md_element (f + (sS n D e + j))) (fun j => X (f + (sS n D e + j)))) → (∀ x, (x < f ∨ f + sS n D d ≤ x) → X x = σ r_Md_element x) → (R97 A) → (R97 X) → (D + 1 - d).toNat < N → en_wp k_X12_plains 2 [some (.inr (.inr (r_Md, 0))), some (.inr (.inr (r_Md_element, 0))), some (.inl f), some (.inl d), none] [] (srl σ [(r_Md_row, A), (r_Md_element, X)]) (fun r σ' => ∃ (f_Md_row : Int → Int), ∃ (f_Md_element : Int → Int), r = none ∧ σ' = srl σ [(r_Md_row, f_Md_row), (r_Md_element, f_Md_element)] ∧ (nfR n D p LW (fun x => (σ r_Md_element) (f + x)) (fun x => f_Md_element (f + x))) ∧ (∀ x, (x < f ∨ f + sS n D (D + 1) ≤ x) → f_Md_element x = (σ r_Md_element) x) ∧ (R97 f_Md_row) ∧ (R97 f_Md_element) ∧ (∀ x, 0 ≤ x → x < sS n D (D + 1) → f_Md_element (f + x) < p)) := by
    intro N
    induction N with
    | zero => intro d A X; intros; omega
    | succ N ih_2 =>
      intro d A X hd hN hX hA hX3 hN_2
      have hWb := sW_b (k := d) hO
      have hSb := sS_b (k := d) hO
      have hSb1 := sS_b (k := d + 1) hO
      have hSs := sS_succ (n := n) (D := D) (k := d) (by omega)
      have hSm : d ≤ D → sS n D (d + 1) ≤ sS n D (D + 1) := fun h9 => sS_mono hO.1.1 (by omega)
      have L_63 : ∀ (N : Nat) (k : Int) (B : Int → Int) (X2 : Int → Int), (d ≤ D) → (0 ≤ k ∧ k ≤ sW n D d) → (R97 B) → (isNF p (sW n D d) (nV n D p LW d.toNat) (fun j => σ r_Md_element (f + (sS n D d + j))) B) → (X2 = seg X (f + sS n D d) k B) → (sW n D d - k).toNat < N → en_wp k_X12_plains 63 [some (.inr (.inr (r_Md, 0))), some (.inr (.inr (r_Md_element, 0))), some (.inl f), some (.inl d), some (.inl k)] [] (srl σ [(r_Md_row, B), (r_Md_element, X2)]) (fun r σ' => ∃ (f_Md_row : Int → Int), ∃ (f_Md_element : Int → Int), r = none ∧ σ' = srl σ [(r_Md_row, f_Md_row), (r_Md_element, f_Md_element)] ∧ (nfR n D p LW (fun x => (σ r_Md_element) (f + x)) (fun x => f_Md_element (f + x))) ∧ (∀ x, (x < f ∨ f + sS n D (D + 1) ≤ x) → f_Md_element x = (σ r_Md_element) x) ∧ (R97 f_Md_row) ∧ (R97 f_Md_element) ∧ (∀ x, 0 ≤ x → x < sS n D (D + 1) → f_Md_element (f + x) < p)) := by
        intro N
        induction N with
        | zero => intro k B X2; intros; omega
        | succ N ih_63 =>
          intro k B X2 hdD hk hB1 hB2 hX2 hN_63
          refine wp_run 3 (pc' := 67) (ls' := [some (.inr (.inr (r_Md, 0))), some (.inr (.inr (r_Md_element, 0))), some (.inl f), some (.inl d), some (.inl k)]) (st' := [.inl d, .inr (.inr (r_Md, 0)), .inl k]) (σ' := srl σ [(r_Md_row, B), (r_Md_element, X2)]) rfl ?_
          refine wp_fnv (v := .inl (sW n D d)) rfl rfl rfl rfl (ct_X12_wide (srl σ [(r_Md_row, B), (r_Md_element, X2)]) n D p d hI (by omega)) ?_
          show en_wp k_X12_plains 70 [some (.inr (.inr (r_Md, 0))), some (.inr (.inr (r_Md_element, 0))), some (.inl f), some (.inl d), some (.inl k)] [.inl (sW n D d), .inl k] (srl σ [(r_Md_row, B), (r_Md_element, X2)]) _
          have q_1 : 0 ≤ sW n D d ∧ sW n D d ≤ 256 := sW_b hO
          refine wp_ic_ge rfl (by omega) (by omega) (fun h_2 => ?_) (fun h_2 => ?_)
          · show en_wp k_X12_plains 98 [some (.inr (.inr (r_Md, 0))), some (.inr (.inr (r_Md_element, 0))), some (.inl f), some (.inl d), some (.inl k)] [] (srl σ [(r_Md_row, B), (r_Md_element, X2)]) _
            refine wp_run 2 (pc' := 2) (ls' := [some (.inr (.inr (r_Md, 0))), some (.inr (.inr (r_Md_element, 0))), some (.inl f), some (.inl (d + 1)), some (.inl k)]) (st' := []) (σ' := srl σ [(r_Md_row, B), (r_Md_element, X2)]) rfl ?_
            refine wp_sub (l := [some (.inr (.inr (r_Md, 0))), some (.inr (.inr (r_Md_element, 0))), some (.inl f), some (.inl (d + 1)), none]) (And.intro rfl (And.intro rfl (And.intro rfl (And.intro rfl trivial)))) ?_
            exact ih_2 (d + 1) B X2 (by omega) (fun e h8 h9 => by rcases Int.lt_or_eq_of_le (show e ≤ d by omega) with h5 | h5 <;> first | exact nf_dst (hN e h8 h5) (fun j a1 a2 => by have h1 := sS_word hO h8 ⟨a1, a2⟩; have h2 := sS_mono (D := D) hO.1.1 (show e + 1 ≤ d by omega); rw [hX2, seg_out (by omega)]) (nV_subI (by omega) (by omega) h8) | (rw [h5]; exact nf_dst hB2 (fun j a1 a2 => by rw [hX2, ← Int.add_assoc, seg_in (by omega)]) (nV_subI (by omega) (by omega) (by omega)))) (fun x h => by rw [hX2, seg_out (by omega)]; exact hX x (by omega)) hB1 (by rw [hX2]; exact R97_seg hX3 (fun _ _ _ => hB1 _)) (by omega)
          · show en_wp k_X12_plains 73 [some (.inr (.inr (r_Md, 0))), some (.inr (.inr (r_Md_element, 0))), some (.inl f), some (.inl d), some (.inl k)] [] (srl σ [(r_Md_row, B), (r_Md_element, X2)]) _
            refine wp_run 4 (pc' := 77) (ls' := [some (.inr (.inr (r_Md, 0))), some (.inr (.inr (r_Md_element, 0))), some (.inl f), some (.inl d), some (.inl k)]) (st' := [.inl d, .inr (.inr (r_Md, 0)), .inl f, .inr (.inr (r_Md_element, 0))]) (σ' := srl σ [(r_Md_row, B), (r_Md_element, X2)]) rfl ?_
            refine wp_fnv (v := .inl (sS n D d)) rfl rfl rfl rfl (ct_X12_start (srl σ [(r_Md_row, B), (r_Md_element, X2)]) n D p d hI (by omega)) ?_
            show en_wp k_X12_plains 80 [some (.inr (.inr (r_Md, 0))), some (.inr (.inr (r_Md_element, 0))), some (.inl f), some (.inl d), some (.inl k)] [.inl (sS n D d), .inl f, .inr (.inr (r_Md_element, 0))] (srl σ [(r_Md_row, B), (r_Md_element, X2)]) _
            have q_3 : 0 ≤ sS n D d ∧ sS n D d ≤ 364 := sS_b hO
            refine wp_run 6 (pc' := 90) (ls' := [some (.inr (.inr (r_Md, 0))), some (.inr (.inr (r_Md_element, 0))), some (.inl f), some (.inl d), some (.inl k)]) (st' := [.inl k, .inr (.inr (r_Md_row, 0)), .inl ((f + (sS n D d)) + k), .inr (.inr (r_Md_element, 0))]) (σ' := srl σ [(r_Md_row, B), (r_Md_element, X2)]) rfl ?_
            refine wp_iald0 rfl rfl (by omega) ?_
            show en_wp k_X12_plains 91 [some (.inr (.inr (r_Md, 0))), some (.inr (.inr (r_Md_element, 0))), some (.inl f), some (.inl d), some (.inl k)] [.inl (B k), .inl ((f + (sS n D d)) + k), .inr (.inr (r_Md_element, 0))] (srl σ [(r_Md_row, B), (r_Md_element, X2)]) _
            refine wp_iast0 rfl rfl (by omega) (wp_wr (l2 := [(r_Md_row, B), (r_Md_element, (up X2 ((f + (sS n D d)) + k) (B k)))]) rfl ?_)
            show en_wp k_X12_plains 92 [some (.inr (.inr (r_Md, 0))), some (.inr (.inr (r_Md_element, 0))), some (.inl f), some (.inl d), some (.inl k)] [] (srl σ [(r_Md_row, B), (r_Md_element, (up X2 ((f + (sS n D d)) + k) (B k)))]) _
            refine wp_run 2 (pc' := 63) (ls' := [some (.inr (.inr (r_Md, 0))), some (.inr (.inr (r_Md_element, 0))), some (.inl f), some (.inl d), some (.inl (k + 1))]) (st' := []) (σ' := srl σ [(r_Md_row, B), (r_Md_element, (up X2 ((f + (sS n D d)) + k) (B k)))]) rfl ?_
            exact ih_63 (k + 1) B (up X2 ((f + (sS n D d)) + k) (B k)) (by omega) (by omega) hB1 hB2 (by rw [hX2]; exact seg_up hk.1 rfl) (by omega)
      have L_18 : ∀ (N : Nat) (k : Int) (B : Int → Int), (d ≤ D) → (0 ≤ k ∧ k ≤ sW n D d) → (B = seg A 0 k (fun j => X (f + sS n D d + j))) → (sW n D d - k).toNat < N → en_wp k_X12_plains 18 [some (.inr (.inr (r_Md, 0))), some (.inr (.inr (r_Md_element, 0))), some (.inl f), some (.inl d), some (.inl k)] [] (srl σ [(r_Md_row, B), (r_Md_element, X)]) (fun r σ' => ∃ (f_Md_row : Int → Int), ∃ (f_Md_element : Int → Int), r = none ∧ σ' = srl σ [(r_Md_row, f_Md_row), (r_Md_element, f_Md_element)] ∧ (nfR n D p LW (fun x => (σ r_Md_element) (f + x)) (fun x => f_Md_element (f + x))) ∧ (∀ x, (x < f ∨ f + sS n D (D + 1) ≤ x) → f_Md_element x = (σ r_Md_element) x) ∧ (R97 f_Md_row) ∧ (R97 f_Md_element) ∧ (∀ x, 0 ≤ x → x < sS n D (D + 1) → f_Md_element (f + x) < p)) := by
        intro N
        induction N with
        | zero => intro k B; intros; omega
        | succ N ih_18 =>
          intro k B hdD hk hB hN_18
          refine wp_run 3 (pc' := 22) (ls' := [some (.inr (.inr (r_Md, 0))), some (.inr (.inr (r_Md_element, 0))), some (.inl f), some (.inl d), some (.inl k)]) (st' := [.inl d, .inr (.inr (r_Md, 0)), .inl k]) (σ' := srl σ [(r_Md_row, B), (r_Md_element, X)]) rfl ?_
          refine wp_fnv (v := .inl (sW n D d)) rfl rfl rfl rfl (ct_X12_wide (srl σ [(r_Md_row, B), (r_Md_element, X)]) n D p d hI (by omega)) ?_
          show en_wp k_X12_plains 25 [some (.inr (.inr (r_Md, 0))), some (.inr (.inr (r_Md_element, 0))), some (.inl f), some (.inl d), some (.inl k)] [.inl (sW n D d), .inl k] (srl σ [(r_Md_row, B), (r_Md_element, X)]) _
          have q_4 : 0 ≤ sW n D d ∧ sW n D d ≤ 256 := sW_b hO
          refine wp_ic_ge rfl (by omega) (by omega) (fun h_5 => ?_) (fun h_5 => ?_)
          · show en_wp k_X12_plains 53 [some (.inr (.inr (r_Md, 0))), some (.inr (.inr (r_Md_element, 0))), some (.inl f), some (.inl d), some (.inl k)] [] (srl σ [(r_Md_row, B), (r_Md_element, X)]) _
            refine wp_run 3 (pc' := 56) (ls' := [some (.inr (.inr (r_Md, 0))), some (.inr (.inr (r_Md_element, 0))), some (.inl f), some (.inl d), some (.inl k)]) (st' := [.inl d, .inl 0, .inr (.inr (r_Md, 0))]) (σ' := srl σ [(r_Md_row, B), (r_Md_element, X)]) rfl ?_
            have hkW : k = sW n D d := by omega
            rw [hkW] at hB
            have hBx : ∀ j, 0 ≤ j → j < sW n D d → B j = σ r_Md_element (f + (sS n D d + j)) := fun j h8 h9 => by
              rw [hB, seg_in0 ⟨h8, h9⟩, hX _ (.inr (by omega)), Int.add_assoc]
            have hB97 : R97 B := by
              rw [hB]
              exact R97_seg hA (fun _ _ _ => hX3 _)
            have hBp : ∀ j, 0 ≤ j → j < sW n D d → 0 ≤ B j ∧ B j < p := fun j h8 h9 => by
              rw [hBx j h8 h9]
              have h7 := hSm hdD
              exact ⟨(hof2 _).1, hop2 _ (by omega) (by omega)⟩
            have hNd := hN1 d (by omega) (by omega)
            refine wp_callv rfl rfl rfl rfl (ct_X12_reduces (srl σ [(r_Md_row, B), (r_Md_element, X)]) n D p 0 d hI (by omega) (by omega) hNd.1 hB97 hN2 hN3 hBp (fun k h0 h1 e => hNd.2.1.2.1 k h0 h1 e)) ?_
            rintro _ _ ⟨f_6, r_7, rfl, rfl, p_8⟩
            have p_8 : rdI p (sW n D d) (fun x => (σ r_Md_leads) (400 * 0 + sS n D d + x)) (fun k x => (σ r_Md_rows) (70000 * 0 + sQ n D d + k * sW n D d + x)) (B) f_6 (-1) r_7 := p_8
            refine wp_bk (l2 := [(r_Md_row, f_6), (r_Md_element, X)]) rfl rfl ?_
            show en_wp k_X12_plains 59 [some (.inr (.inr (r_Md, 0))), some (.inr (.inr (r_Md_element, 0))), some (.inl f), some (.inl d), some (.inl k)] [.inl r_7] (srl σ [(r_Md_row, f_6), (r_Md_element, X)]) _
            have hrd := p_8
            have hnf := nf_src (mD_sub hNd.2.1) (mD_rd hNd.2.1 hO.2.2.2 hrd) (b := fun j => σ r_Md_element (f + (sS n D d + j))) hBx
            refine wp_run 3 (pc' := 63) (ls' := [some (.inr (.inr (r_Md, 0))), some (.inr (.inr (r_Md_element, 0))), some (.inl f), some (.inl d), some (.inl 0)]) (st' := []) (σ' := srl σ [(r_Md_row, f_6), (r_Md_element, X)]) rfl ?_
            exact L_63 _ 0 f_6 X (by omega) (by omega) hrd.1 hnf (seg_0 _ _ _).symm (Nat.lt_succ_self _)
          · show en_wp k_X12_plains 28 [some (.inr (.inr (r_Md, 0))), some (.inr (.inr (r_Md_element, 0))), some (.inl f), some (.inl d), some (.inl k)] [] (srl σ [(r_Md_row, B), (r_Md_element, X)]) _
            refine wp_run 7 (pc' := 38) (ls' := [some (.inr (.inr (r_Md, 0))), some (.inr (.inr (r_Md_element, 0))), some (.inl f), some (.inl d), some (.inl k)]) (st' := [.inl d, .inr (.inr (r_Md, 0)), .inl f, .inr (.inr (r_Md_element, 0)), .inl k, .inr (.inr (r_Md_row, 0))]) (σ' := srl σ [(r_Md_row, B), (r_Md_element, X)]) rfl ?_
            refine wp_fnv (v := .inl (sS n D d)) rfl rfl rfl rfl (ct_X12_start (srl σ [(r_Md_row, B), (r_Md_element, X)]) n D p d hI (by omega)) ?_
            show en_wp k_X12_plains 41 [some (.inr (.inr (r_Md, 0))), some (.inr (.inr (r_Md_element, 0))), some (.inl f), some (.inl d), some (.inl k)] [.inl (sS n D d), .inl f, .inr (.inr (r_Md_element, 0)), .inl k, .inr (.inr (r_Md_row, 0))] (srl σ [(r_Md_row, B), (r_Md_element, X)]) _
            have q_9 : 0 ≤ sS n D d ∧ sS n D d ≤ 364 := sS_b hO
            refine wp_run 3 (pc' := 45) (ls' := [some (.inr (.inr (r_Md, 0))), some (.inr (.inr (r_Md_element, 0))), some (.inl f), some (.inl d), some (.inl k)]) (st' := [.inl ((f + (sS n D d)) + k), .inr (.inr (r_Md_element, 0)), .inl k, .inr (.inr (r_Md_row, 0))]) (σ' := srl σ [(r_Md_row, B), (r_Md_element, X)]) rfl ?_
            refine wp_iald0 rfl rfl (by omega) ?_
            show en_wp k_X12_plains 46 [some (.inr (.inr (r_Md, 0))), some (.inr (.inr (r_Md_element, 0))), some (.inl f), some (.inl d), some (.inl k)] [.inl (X ((f + (sS n D d)) + k)), .inl k, .inr (.inr (r_Md_row, 0))] (srl σ [(r_Md_row, B), (r_Md_element, X)]) _
            refine wp_iast0 rfl rfl (by omega) (wp_wr (l2 := [(r_Md_row, (up B k (X ((f + (sS n D d)) + k)))), (r_Md_element, X)]) rfl ?_)
            show en_wp k_X12_plains 47 [some (.inr (.inr (r_Md, 0))), some (.inr (.inr (r_Md_element, 0))), some (.inl f), some (.inl d), some (.inl k)] [] (srl σ [(r_Md_row, (up B k (X ((f + (sS n D d)) + k)))), (r_Md_element, X)]) _
            refine wp_run 2 (pc' := 18) (ls' := [some (.inr (.inr (r_Md, 0))), some (.inr (.inr (r_Md_element, 0))), some (.inl f), some (.inl d), some (.inl (k + 1))]) (st' := []) (σ' := srl σ [(r_Md_row, (up B k (X ((f + (sS n D d)) + k)))), (r_Md_element, X)]) rfl ?_
            exact ih_18 (k + 1) (up B k (X ((f + (sS n D d)) + k))) (by omega) (by omega) (by rw [hB]; exact seg_up0 hk.1 rfl) (by omega)
      refine wp_run 5 (pc' := 11) (ls' := [some (.inr (.inr (r_Md, 0))), some (.inr (.inr (r_Md_element, 0))), some (.inl f), some (.inl d), none]) (st' := [.inl (σ r_Md_live 0), .inr (.inr (r_Md_degree, 0)), .inl d]) (σ' := srl σ [(r_Md_row, A), (r_Md_element, X)]) rfl ?_
      refine wp_iald0 rfl rfl (by omega) ?_
      show en_wp k_X12_plains 12 [some (.inr (.inr (r_Md, 0))), some (.inr (.inr (r_Md_element, 0))), some (.inl f), some (.inl d), none] [.inl (σ r_Md_degree (σ r_Md_live 0)), .inl d] (srl σ [(r_Md_row, A), (r_Md_element, X)]) _
      rw [hD]
      show en_wp k_X12_plains 12 [some (.inr (.inr (r_Md, 0))), some (.inr (.inr (r_Md_element, 0))), some (.inl f), some (.inl d), none] [.inl D, .inl d] (srl σ [(r_Md_row, A), (r_Md_element, X)]) _
      refine wp_ic_gt rfl (by omega) (by omega) (fun h_10 => ?_) (fun h_10 => ?_)
      · show en_wp k_X12_plains 104 [some (.inr (.inr (r_Md, 0))), some (.inr (.inr (r_Md_element, 0))), some (.inl f), some (.inl d), none] [] (srl σ [(r_Md_row, A), (r_Md_element, X)]) _
        exact wp_vret rfl ⟨A, X, rfl, srl_eq (l' := [(r_Md_row, A), (r_Md_element, X)]) (And.intro rfl (And.intro rfl trivial)) (And.intro rfl (And.intro rfl trivial)), (nfR_fin hO hN (by omega) hX hA hX3)⟩
      · show en_wp k_X12_plains 15 [some (.inr (.inr (r_Md, 0))), some (.inr (.inr (r_Md_element, 0))), some (.inl f), some (.inl d), none] [] (srl σ [(r_Md_row, A), (r_Md_element, X)]) _
        refine wp_run 2 (pc' := 18) (ls' := [some (.inr (.inr (r_Md, 0))), some (.inr (.inr (r_Md_element, 0))), some (.inl f), some (.inl d), some (.inl 0)]) (st' := []) (σ' := srl σ [(r_Md_row, A), (r_Md_element, X)]) rfl ?_
        exact L_18 _ 0 A (by omega) (by omega) (seg_0 _ _ _).symm (Nat.lt_succ_self _)
  refine wp_run 2 (pc' := 2) (ls' := [some (.inr (.inr (r_Md, 0))), some (.inr (.inr (r_Md_element, 0))), some (.inl f), some (.inl 1), none]) (st' := []) (σ' := srl σ []) rfl ?_
  refine wp_mem (srl_eq (l' := [(r_Md_row, (σ r_Md_row)), (r_Md_element, (σ r_Md_element))]) trivial (And.intro rfl (And.intro rfl trivial))) ?_
  exact L_2 _ 1 (σ r_Md_row) (σ r_Md_element) (by omega) (fun e h8 h9 => by rw [show e = 0 by omega]; exact nf_zero (by omega) (by omega) (by show 0 ≤ σ r_Md_element (f + (sS n D 0 + 0)) ∧ σ r_Md_element (f + (sS n D 0 + 0)) < p; rw [sS_0]; exact ⟨(hof2 _).1, hop2 _ (by omega) (by have := sS_mono (D := D) hO.1.1 (show 1 ≤ D + 1 by omega); have h1 := sS_succ (n := n) (D := D) (k := 0) (by omega); rw [sS_0, sW_0 (by omega)] at h1; rw [show (0 : Int) + 1 = 1 from rfl] at h1; omega)⟩)) (fun _ _ => rfl) hrow hof (Nat.lt_succ_self _)
theorem ct_X12_plains_Md_first (σ : en_m) (n : Int) (D : Int) (p : Int) (LW : Int → (Int → Int) → Prop) (f : Int) (hI : mI σ n D p) (hf : 0 ≤ f ∧ f + 364 ≤ 400) (hof : R97 ((σ r_Md_first))) (hop : ∀ x, 0 ≤ x → x < sS n D (D + 1) → (σ r_Md_first) (f + x) < p) (hrow : R97 ((σ r_Md_row))) (hna : mNall ((σ r_Md_rowStart)) ((σ r_Md_rows)) ((σ r_Md_leads)) ((σ r_Md_sizes)) n D p LW) : en_ct z_X12_plains [.inr (.inr (r_Md, 0)), .inr (.inr (r_Md_first, 0)), .inl f] σ (fun r σ' => ∃ (f_Md_row : Int → Int), ∃ (f_Md_first : Int → Int), r = none ∧ σ' = srl σ [(r_Md_row, f_Md_row), (r_Md_first, f_Md_first)] ∧ (nfR n D p LW (fun x => (σ r_Md_first) (f + x)) (fun x => f_Md_first (f + x))) ∧ (∀ x, (x < f ∨ f + sS n D (D + 1) ≤ x) → f_Md_first x = (σ r_Md_first) x) ∧ (R97 f_Md_row) ∧ (R97 f_Md_first) ∧ (∀ x, 0 ≤ x → x < sS n D (D + 1) → f_Md_first (f + x) < p)) := by
  show en_wp k_X12_plains 0 [some (.inr (.inr (r_Md, 0))), some (.inr (.inr (r_Md_first, 0))), some (.inl f), none, none] [] (srl σ []) (fun r σ' => ∃ (f_Md_row : Int → Int), ∃ (f_Md_first : Int → Int), r = none ∧ σ' = srl σ [(r_Md_row, f_Md_row), (r_Md_first, f_Md_first)] ∧ (nfR n D p LW (fun x => (σ r_Md_first) (f + x)) (fun x => f_Md_first (f + x))) ∧ (∀ x, (x < f ∨ f + sS n D (D + 1) ≤ x) → f_Md_first x = (σ r_Md_first) x) ∧ (R97 f_Md_row) ∧ (R97 f_Md_first) ∧ (∀ x, 0 ≤ x → x < sS n D (D + 1) → f_Md_first (f + x) < p))
  have hI2 := hI
  obtain ⟨hO, hL, hn, hD, hp, hpw, hst⟩ := hI2
  obtain ⟨⟨hO1, hO2⟩, ⟨hO3, hO4⟩, hO5, hO6, hO7, hO8⟩ := id hO
  obtain ⟨hN1, hN2, hN3⟩ := id hna
  have hAb := sS_b (k := D + 1) hO
  have hof2 : ∀ x, 0 ≤ σ r_Md_first x ∧ σ r_Md_first x < 97 := hof
  have hop2 : ∀ x, 0 ≤ x → x < sS n D (D + 1) → σ r_Md_first (f + x) < p := hop
  have L_2 : ∀ (N : Nat) (d : Int) (A : Int → Int) (X : Int → Int), (1 ≤ d ∧ d ≤ D + 1) → (∀ e, 0 ≤ e → e < d → isNF p (sW n D e) (nV n D p LW e.toNat) (fun j => σ r_Md_first (f + (sS n D e + j))) (fun j => X (f + (sS n D e + j)))) → (∀ x, (x < f ∨ f + sS n D d ≤ x) → X x = σ r_Md_first x) → (R97 A) → (R97 X) → (D + 1 - d).toNat < N → en_wp k_X12_plains 2 [some (.inr (.inr (r_Md, 0))), some (.inr (.inr (r_Md_first, 0))), some (.inl f), some (.inl d), none] [] (srl σ [(r_Md_row, A), (r_Md_first, X)]) (fun r σ' => ∃ (f_Md_row : Int → Int), ∃ (f_Md_first : Int → Int), r = none ∧ σ' = srl σ [(r_Md_row, f_Md_row), (r_Md_first, f_Md_first)] ∧ (nfR n D p LW (fun x => (σ r_Md_first) (f + x)) (fun x => f_Md_first (f + x))) ∧ (∀ x, (x < f ∨ f + sS n D (D + 1) ≤ x) → f_Md_first x = (σ r_Md_first) x) ∧ (R97 f_Md_row) ∧ (R97 f_Md_first) ∧ (∀ x, 0 ≤ x → x < sS n D (D + 1) → f_Md_first (f + x) < p)) := by
    intro N
    induction N with
    | zero => intro d A X; intros; omega
    | succ N ih_2 =>
      intro d A X hd hN hX hA hX3 hN_2
      have hWb := sW_b (k := d) hO
      have hSb := sS_b (k := d) hO
      have hSb1 := sS_b (k := d + 1) hO
      have hSs := sS_succ (n := n) (D := D) (k := d) (by omega)
      have hSm : d ≤ D → sS n D (d + 1) ≤ sS n D (D + 1) := fun h9 => sS_mono hO.1.1 (by omega)
      have L_63 : ∀ (N : Nat) (k : Int) (B : Int → Int) (X2 : Int → Int), (d ≤ D) → (0 ≤ k ∧ k ≤ sW n D d) → (R97 B) → (isNF p (sW n D d) (nV n D p LW d.toNat) (fun j => σ r_Md_first (f + (sS n D d + j))) B) → (X2 = seg X (f + sS n D d) k B) → (sW n D d - k).toNat < N → en_wp k_X12_plains 63 [some (.inr (.inr (r_Md, 0))), some (.inr (.inr (r_Md_first, 0))), some (.inl f), some (.inl d), some (.inl k)] [] (srl σ [(r_Md_row, B), (r_Md_first, X2)]) (fun r σ' => ∃ (f_Md_row : Int → Int), ∃ (f_Md_first : Int → Int), r = none ∧ σ' = srl σ [(r_Md_row, f_Md_row), (r_Md_first, f_Md_first)] ∧ (nfR n D p LW (fun x => (σ r_Md_first) (f + x)) (fun x => f_Md_first (f + x))) ∧ (∀ x, (x < f ∨ f + sS n D (D + 1) ≤ x) → f_Md_first x = (σ r_Md_first) x) ∧ (R97 f_Md_row) ∧ (R97 f_Md_first) ∧ (∀ x, 0 ≤ x → x < sS n D (D + 1) → f_Md_first (f + x) < p)) := by
        intro N
        induction N with
        | zero => intro k B X2; intros; omega
        | succ N ih_63 =>
          intro k B X2 hdD hk hB1 hB2 hX2 hN_63
          refine wp_run 3 (pc' := 67) (ls' := [some (.inr (.inr (r_Md, 0))), some (.inr (.inr (r_Md_first, 0))), some (.inl f), some (.inl d), some (.inl k)]) (st' := [.inl d, .inr (.inr (r_Md, 0)), .inl k]) (σ' := srl σ [(r_Md_row, B), (r_Md_first, X2)]) rfl ?_
          refine wp_fnv (v := .inl (sW n D d)) rfl rfl rfl rfl (ct_X12_wide (srl σ [(r_Md_row, B), (r_Md_first, X2)]) n D p d hI (by omega)) ?_
          show en_wp k_X12_plains 70 [some (.inr (.inr (r_Md, 0))), some (.inr (.inr (r_Md_first, 0))), some (.inl f), some (.inl d), some (.inl k)] [.inl (sW n D d), .inl k] (srl σ [(r_Md_row, B), (r_Md_first, X2)]) _
          have q_1 : 0 ≤ sW n D d ∧ sW n D d ≤ 256 := sW_b hO
          refine wp_ic_ge rfl (by omega) (by omega) (fun h_2 => ?_) (fun h_2 => ?_)
          · show en_wp k_X12_plains 98 [some (.inr (.inr (r_Md, 0))), some (.inr (.inr (r_Md_first, 0))), some (.inl f), some (.inl d), some (.inl k)] [] (srl σ [(r_Md_row, B), (r_Md_first, X2)]) _
            refine wp_run 2 (pc' := 2) (ls' := [some (.inr (.inr (r_Md, 0))), some (.inr (.inr (r_Md_first, 0))), some (.inl f), some (.inl (d + 1)), some (.inl k)]) (st' := []) (σ' := srl σ [(r_Md_row, B), (r_Md_first, X2)]) rfl ?_
            refine wp_sub (l := [some (.inr (.inr (r_Md, 0))), some (.inr (.inr (r_Md_first, 0))), some (.inl f), some (.inl (d + 1)), none]) (And.intro rfl (And.intro rfl (And.intro rfl (And.intro rfl trivial)))) ?_
            exact ih_2 (d + 1) B X2 (by omega) (fun e h8 h9 => by rcases Int.lt_or_eq_of_le (show e ≤ d by omega) with h5 | h5 <;> first | exact nf_dst (hN e h8 h5) (fun j a1 a2 => by have h1 := sS_word hO h8 ⟨a1, a2⟩; have h2 := sS_mono (D := D) hO.1.1 (show e + 1 ≤ d by omega); rw [hX2, seg_out (by omega)]) (nV_subI (by omega) (by omega) h8) | (rw [h5]; exact nf_dst hB2 (fun j a1 a2 => by rw [hX2, ← Int.add_assoc, seg_in (by omega)]) (nV_subI (by omega) (by omega) (by omega)))) (fun x h => by rw [hX2, seg_out (by omega)]; exact hX x (by omega)) hB1 (by rw [hX2]; exact R97_seg hX3 (fun _ _ _ => hB1 _)) (by omega)
          · show en_wp k_X12_plains 73 [some (.inr (.inr (r_Md, 0))), some (.inr (.inr (r_Md_first, 0))), some (.inl f), some (.inl d), some (.inl k)] [] (srl σ [(r_Md_row, B), (r_Md_first, X2)]) _
            refine wp_run 4 (pc' := 77) (ls' := [some (.inr (.inr (r_Md, 0))), some (.inr (.inr (r_Md_first, 0))), some (.inl f), some (.inl d), some (.inl k)]) (st' := [.inl d, .inr (.inr (r_Md, 0)), .inl f, .inr (.inr (r_Md_first, 0))]) (σ' := srl σ [(r_Md_row, B), (r_Md_first, X2)]) rfl ?_
            refine wp_fnv (v := .inl (sS n D d)) rfl rfl rfl rfl (ct_X12_start (srl σ [(r_Md_row, B), (r_Md_first, X2)]) n D p d hI (by omega)) ?_
            show en_wp k_X12_plains 80 [some (.inr (.inr (r_Md, 0))), some (.inr (.inr (r_Md_first, 0))), some (.inl f), some (.inl d), some (.inl k)] [.inl (sS n D d), .inl f, .inr (.inr (r_Md_first, 0))] (srl σ [(r_Md_row, B), (r_Md_first, X2)]) _
            have q_3 : 0 ≤ sS n D d ∧ sS n D d ≤ 364 := sS_b hO
            refine wp_run 6 (pc' := 90) (ls' := [some (.inr (.inr (r_Md, 0))), some (.inr (.inr (r_Md_first, 0))), some (.inl f), some (.inl d), some (.inl k)]) (st' := [.inl k, .inr (.inr (r_Md_row, 0)), .inl ((f + (sS n D d)) + k), .inr (.inr (r_Md_first, 0))]) (σ' := srl σ [(r_Md_row, B), (r_Md_first, X2)]) rfl ?_
            refine wp_iald0 rfl rfl (by omega) ?_
            show en_wp k_X12_plains 91 [some (.inr (.inr (r_Md, 0))), some (.inr (.inr (r_Md_first, 0))), some (.inl f), some (.inl d), some (.inl k)] [.inl (B k), .inl ((f + (sS n D d)) + k), .inr (.inr (r_Md_first, 0))] (srl σ [(r_Md_row, B), (r_Md_first, X2)]) _
            refine wp_iast0 rfl rfl (by omega) (wp_wr (l2 := [(r_Md_row, B), (r_Md_first, (up X2 ((f + (sS n D d)) + k) (B k)))]) rfl ?_)
            show en_wp k_X12_plains 92 [some (.inr (.inr (r_Md, 0))), some (.inr (.inr (r_Md_first, 0))), some (.inl f), some (.inl d), some (.inl k)] [] (srl σ [(r_Md_row, B), (r_Md_first, (up X2 ((f + (sS n D d)) + k) (B k)))]) _
            refine wp_run 2 (pc' := 63) (ls' := [some (.inr (.inr (r_Md, 0))), some (.inr (.inr (r_Md_first, 0))), some (.inl f), some (.inl d), some (.inl (k + 1))]) (st' := []) (σ' := srl σ [(r_Md_row, B), (r_Md_first, (up X2 ((f + (sS n D d)) + k) (B k)))]) rfl ?_
            exact ih_63 (k + 1) B (up X2 ((f + (sS n D d)) + k) (B k)) (by omega) (by omega) hB1 hB2 (by rw [hX2]; exact seg_up hk.1 rfl) (by omega)
      have L_18 : ∀ (N : Nat) (k : Int) (B : Int → Int), (d ≤ D) → (0 ≤ k ∧ k ≤ sW n D d) → (B = seg A 0 k (fun j => X (f + sS n D d + j))) → (sW n D d - k).toNat < N → en_wp k_X12_plains 18 [some (.inr (.inr (r_Md, 0))), some (.inr (.inr (r_Md_first, 0))), some (.inl f), some (.inl d), some (.inl k)] [] (srl σ [(r_Md_row, B), (r_Md_first, X)]) (fun r σ' => ∃ (f_Md_row : Int → Int), ∃ (f_Md_first : Int → Int), r = none ∧ σ' = srl σ [(r_Md_row, f_Md_row), (r_Md_first, f_Md_first)] ∧ (nfR n D p LW (fun x => (σ r_Md_first) (f + x)) (fun x => f_Md_first (f + x))) ∧ (∀ x, (x < f ∨ f + sS n D (D + 1) ≤ x) → f_Md_first x = (σ r_Md_first) x) ∧ (R97 f_Md_row) ∧ (R97 f_Md_first) ∧ (∀ x, 0 ≤ x → x < sS n D (D + 1) → f_Md_first (f + x) < p)) := by
        intro N
        induction N with
        | zero => intro k B; intros; omega
        | succ N ih_18 =>
          intro k B hdD hk hB hN_18
          refine wp_run 3 (pc' := 22) (ls' := [some (.inr (.inr (r_Md, 0))), some (.inr (.inr (r_Md_first, 0))), some (.inl f), some (.inl d), some (.inl k)]) (st' := [.inl d, .inr (.inr (r_Md, 0)), .inl k]) (σ' := srl σ [(r_Md_row, B), (r_Md_first, X)]) rfl ?_
          refine wp_fnv (v := .inl (sW n D d)) rfl rfl rfl rfl (ct_X12_wide (srl σ [(r_Md_row, B), (r_Md_first, X)]) n D p d hI (by omega)) ?_
          show en_wp k_X12_plains 25 [some (.inr (.inr (r_Md, 0))), some (.inr (.inr (r_Md_first, 0))), some (.inl f), some (.inl d), some (.inl k)] [.inl (sW n D d), .inl k] (srl σ [(r_Md_row, B), (r_Md_first, X)]) _
          have q_4 : 0 ≤ sW n D d ∧ sW n D d ≤ 256 := sW_b hO
          refine wp_ic_ge rfl (by omega) (by omega) (fun h_5 => ?_) (fun h_5 => ?_)
          · show en_wp k_X12_plains 53 [some (.inr (.inr (r_Md, 0))), some (.inr (.inr (r_Md_first, 0))), some (.inl f), some (.inl d), some (.inl k)] [] (srl σ [(r_Md_row, B), (r_Md_first, X)]) _
            refine wp_run 3 (pc' := 56) (ls' := [some (.inr (.inr (r_Md, 0))), some (.inr (.inr (r_Md_first, 0))), some (.inl f), some (.inl d), some (.inl k)]) (st' := [.inl d, .inl 0, .inr (.inr (r_Md, 0))]) (σ' := srl σ [(r_Md_row, B), (r_Md_first, X)]) rfl ?_
            have hkW : k = sW n D d := by omega
            rw [hkW] at hB
            have hBx : ∀ j, 0 ≤ j → j < sW n D d → B j = σ r_Md_first (f + (sS n D d + j)) := fun j h8 h9 => by
              rw [hB, seg_in0 ⟨h8, h9⟩, hX _ (.inr (by omega)), Int.add_assoc]
            have hB97 : R97 B := by
              rw [hB]
              exact R97_seg hA (fun _ _ _ => hX3 _)
            have hBp : ∀ j, 0 ≤ j → j < sW n D d → 0 ≤ B j ∧ B j < p := fun j h8 h9 => by
              rw [hBx j h8 h9]
              have h7 := hSm hdD
              exact ⟨(hof2 _).1, hop2 _ (by omega) (by omega)⟩
            have hNd := hN1 d (by omega) (by omega)
            refine wp_callv rfl rfl rfl rfl (ct_X12_reduces (srl σ [(r_Md_row, B), (r_Md_first, X)]) n D p 0 d hI (by omega) (by omega) hNd.1 hB97 hN2 hN3 hBp (fun k h0 h1 e => hNd.2.1.2.1 k h0 h1 e)) ?_
            rintro _ _ ⟨f_6, r_7, rfl, rfl, p_8⟩
            have p_8 : rdI p (sW n D d) (fun x => (σ r_Md_leads) (400 * 0 + sS n D d + x)) (fun k x => (σ r_Md_rows) (70000 * 0 + sQ n D d + k * sW n D d + x)) (B) f_6 (-1) r_7 := p_8
            refine wp_bk (l2 := [(r_Md_row, f_6), (r_Md_first, X)]) rfl rfl ?_
            show en_wp k_X12_plains 59 [some (.inr (.inr (r_Md, 0))), some (.inr (.inr (r_Md_first, 0))), some (.inl f), some (.inl d), some (.inl k)] [.inl r_7] (srl σ [(r_Md_row, f_6), (r_Md_first, X)]) _
            have hrd := p_8
            have hnf := nf_src (mD_sub hNd.2.1) (mD_rd hNd.2.1 hO.2.2.2 hrd) (b := fun j => σ r_Md_first (f + (sS n D d + j))) hBx
            refine wp_run 3 (pc' := 63) (ls' := [some (.inr (.inr (r_Md, 0))), some (.inr (.inr (r_Md_first, 0))), some (.inl f), some (.inl d), some (.inl 0)]) (st' := []) (σ' := srl σ [(r_Md_row, f_6), (r_Md_first, X)]) rfl ?_
            exact L_63 _ 0 f_6 X (by omega) (by omega) hrd.1 hnf (seg_0 _ _ _).symm (Nat.lt_succ_self _)
          · show en_wp k_X12_plains 28 [some (.inr (.inr (r_Md, 0))), some (.inr (.inr (r_Md_first, 0))), some (.inl f), some (.inl d), some (.inl k)] [] (srl σ [(r_Md_row, B), (r_Md_first, X)]) _
            refine wp_run 7 (pc' := 38) (ls' := [some (.inr (.inr (r_Md, 0))), some (.inr (.inr (r_Md_first, 0))), some (.inl f), some (.inl d), some (.inl k)]) (st' := [.inl d, .inr (.inr (r_Md, 0)), .inl f, .inr (.inr (r_Md_first, 0)), .inl k, .inr (.inr (r_Md_row, 0))]) (σ' := srl σ [(r_Md_row, B), (r_Md_first, X)]) rfl ?_
            refine wp_fnv (v := .inl (sS n D d)) rfl rfl rfl rfl (ct_X12_start (srl σ [(r_Md_row, B), (r_Md_first, X)]) n D p d hI (by omega)) ?_
            show en_wp k_X12_plains 41 [some (.inr (.inr (r_Md, 0))), some (.inr (.inr (r_Md_first, 0))), some (.inl f), some (.inl d), some (.inl k)] [.inl (sS n D d), .inl f, .inr (.inr (r_Md_first, 0)), .inl k, .inr (.inr (r_Md_row, 0))] (srl σ [(r_Md_row, B), (r_Md_first, X)]) _
            have q_9 : 0 ≤ sS n D d ∧ sS n D d ≤ 364 := sS_b hO
            refine wp_run 3 (pc' := 45) (ls' := [some (.inr (.inr (r_Md, 0))), some (.inr (.inr (r_Md_first, 0))), some (.inl f), some (.inl d), some (.inl k)]) (st' := [.inl ((f + (sS n D d)) + k), .inr (.inr (r_Md_first, 0)), .inl k, .inr (.inr (r_Md_row, 0))]) (σ' := srl σ [(r_Md_row, B), (r_Md_first, X)]) rfl ?_
            refine wp_iald0 rfl rfl (by omega) ?_
            show en_wp k_X12_plains 46 [some (.inr (.inr (r_Md, 0))), some (.inr (.inr (r_Md_first, 0))), some (.inl f), some (.inl d), some (.inl k)] [.inl (X ((f + (sS n D d)) + k)), .inl k, .inr (.inr (r_Md_row, 0))] (srl σ [(r_Md_row, B), (r_Md_first, X)]) _
            refine wp_iast0 rfl rfl (by omega) (wp_wr (l2 := [(r_Md_row, (up B k (X ((f + (sS n D d)) + k)))), (r_Md_first, X)]) rfl ?_)
            show en_wp k_X12_plains 47 [some (.inr (.inr (r_Md, 0))), some (.inr (.inr (r_Md_first, 0))), some (.inl f), some (.inl d), some (.inl k)] [] (srl σ [(r_Md_row, (up B k (X ((f + (sS n D d)) + k)))), (r_Md_first, X)]) _
            refine wp_run 2 (pc' := 18) (ls' := [some (.inr (.inr (r_Md, 0))), some (.inr (.inr (r_Md_first, 0))), some (.inl f), some (.inl d), some (.inl (k + 1))]) (st' := []) (σ' := srl σ [(r_Md_row, (up B k (X ((f + (sS n D d)) + k)))), (r_Md_first, X)]) rfl ?_
            exact ih_18 (k + 1) (up B k (X ((f + (sS n D d)) + k))) (by omega) (by omega) (by rw [hB]; exact seg_up0 hk.1 rfl) (by omega)
      refine wp_run 5 (pc' := 11) (ls' := [some (.inr (.inr (r_Md, 0))), some (.inr (.inr (r_Md_first, 0))), some (.inl f), some (.inl d), none]) (st' := [.inl (σ r_Md_live 0), .inr (.inr (r_Md_degree, 0)), .inl d]) (σ' := srl σ [(r_Md_row, A), (r_Md_first, X)]) rfl ?_
      refine wp_iald0 rfl rfl (by omega) ?_
      show en_wp k_X12_plains 12 [some (.inr (.inr (r_Md, 0))), some (.inr (.inr (r_Md_first, 0))), some (.inl f), some (.inl d), none] [.inl (σ r_Md_degree (σ r_Md_live 0)), .inl d] (srl σ [(r_Md_row, A), (r_Md_first, X)]) _
      rw [hD]
      show en_wp k_X12_plains 12 [some (.inr (.inr (r_Md, 0))), some (.inr (.inr (r_Md_first, 0))), some (.inl f), some (.inl d), none] [.inl D, .inl d] (srl σ [(r_Md_row, A), (r_Md_first, X)]) _
      refine wp_ic_gt rfl (by omega) (by omega) (fun h_10 => ?_) (fun h_10 => ?_)
      · show en_wp k_X12_plains 104 [some (.inr (.inr (r_Md, 0))), some (.inr (.inr (r_Md_first, 0))), some (.inl f), some (.inl d), none] [] (srl σ [(r_Md_row, A), (r_Md_first, X)]) _
        exact wp_vret rfl ⟨A, X, rfl, srl_eq (l' := [(r_Md_row, A), (r_Md_first, X)]) (And.intro rfl (And.intro rfl trivial)) (And.intro rfl (And.intro rfl trivial)), (nfR_fin hO hN (by omega) hX hA hX3)⟩
      · show en_wp k_X12_plains 15 [some (.inr (.inr (r_Md, 0))), some (.inr (.inr (r_Md_first, 0))), some (.inl f), some (.inl d), none] [] (srl σ [(r_Md_row, A), (r_Md_first, X)]) _
        refine wp_run 2 (pc' := 18) (ls' := [some (.inr (.inr (r_Md, 0))), some (.inr (.inr (r_Md_first, 0))), some (.inl f), some (.inl d), some (.inl 0)]) (st' := []) (σ' := srl σ [(r_Md_row, A), (r_Md_first, X)]) rfl ?_
        exact L_18 _ 0 A (by omega) (by omega) (seg_0 _ _ _).symm (Nat.lt_succ_self _)
  refine wp_run 2 (pc' := 2) (ls' := [some (.inr (.inr (r_Md, 0))), some (.inr (.inr (r_Md_first, 0))), some (.inl f), some (.inl 1), none]) (st' := []) (σ' := srl σ []) rfl ?_
  refine wp_mem (srl_eq (l' := [(r_Md_row, (σ r_Md_row)), (r_Md_first, (σ r_Md_first))]) trivial (And.intro rfl (And.intro rfl trivial))) ?_
  exact L_2 _ 1 (σ r_Md_row) (σ r_Md_first) (by omega) (fun e h8 h9 => by rw [show e = 0 by omega]; exact nf_zero (by omega) (by omega) (by show 0 ≤ σ r_Md_first (f + (sS n D 0 + 0)) ∧ σ r_Md_first (f + (sS n D 0 + 0)) < p; rw [sS_0]; exact ⟨(hof2 _).1, hop2 _ (by omega) (by have := sS_mono (D := D) hO.1.1 (show 1 ≤ D + 1 by omega); have h1 := sS_succ (n := n) (D := D) (k := 0) (by omega); rw [sS_0, sW_0 (by omega)] at h1; rw [show (0 : Int) + 1 = 1 from rfl] at h1; omega)⟩)) (fun _ _ => rfl) hrow hof (Nat.lt_succ_self _)
theorem ct_X12_plains_Md_then (σ : en_m) (n : Int) (D : Int) (p : Int) (LW : Int → (Int → Int) → Prop) (f : Int) (hI : mI σ n D p) (hf : 0 ≤ f ∧ f + 364 ≤ 400) (hof : R97 ((σ r_Md_then))) (hop : ∀ x, 0 ≤ x → x < sS n D (D + 1) → (σ r_Md_then) (f + x) < p) (hrow : R97 ((σ r_Md_row))) (hna : mNall ((σ r_Md_rowStart)) ((σ r_Md_rows)) ((σ r_Md_leads)) ((σ r_Md_sizes)) n D p LW) : en_ct z_X12_plains [.inr (.inr (r_Md, 0)), .inr (.inr (r_Md_then, 0)), .inl f] σ (fun r σ' => ∃ (f_Md_row : Int → Int), ∃ (f_Md_then : Int → Int), r = none ∧ σ' = srl σ [(r_Md_row, f_Md_row), (r_Md_then, f_Md_then)] ∧ (nfR n D p LW (fun x => (σ r_Md_then) (f + x)) (fun x => f_Md_then (f + x))) ∧ (∀ x, (x < f ∨ f + sS n D (D + 1) ≤ x) → f_Md_then x = (σ r_Md_then) x) ∧ (R97 f_Md_row) ∧ (R97 f_Md_then) ∧ (∀ x, 0 ≤ x → x < sS n D (D + 1) → f_Md_then (f + x) < p)) := by
  show en_wp k_X12_plains 0 [some (.inr (.inr (r_Md, 0))), some (.inr (.inr (r_Md_then, 0))), some (.inl f), none, none] [] (srl σ []) (fun r σ' => ∃ (f_Md_row : Int → Int), ∃ (f_Md_then : Int → Int), r = none ∧ σ' = srl σ [(r_Md_row, f_Md_row), (r_Md_then, f_Md_then)] ∧ (nfR n D p LW (fun x => (σ r_Md_then) (f + x)) (fun x => f_Md_then (f + x))) ∧ (∀ x, (x < f ∨ f + sS n D (D + 1) ≤ x) → f_Md_then x = (σ r_Md_then) x) ∧ (R97 f_Md_row) ∧ (R97 f_Md_then) ∧ (∀ x, 0 ≤ x → x < sS n D (D + 1) → f_Md_then (f + x) < p))
  have hI2 := hI
  obtain ⟨hO, hL, hn, hD, hp, hpw, hst⟩ := hI2
  obtain ⟨⟨hO1, hO2⟩, ⟨hO3, hO4⟩, hO5, hO6, hO7, hO8⟩ := id hO
  obtain ⟨hN1, hN2, hN3⟩ := id hna
  have hAb := sS_b (k := D + 1) hO
  have hof2 : ∀ x, 0 ≤ σ r_Md_then x ∧ σ r_Md_then x < 97 := hof
  have hop2 : ∀ x, 0 ≤ x → x < sS n D (D + 1) → σ r_Md_then (f + x) < p := hop
  have L_2 : ∀ (N : Nat) (d : Int) (A : Int → Int) (X : Int → Int), (1 ≤ d ∧ d ≤ D + 1) → (∀ e, 0 ≤ e → e < d → isNF p (sW n D e) (nV n D p LW e.toNat) (fun j => σ r_Md_then (f + (sS n D e + j))) (fun j => X (f + (sS n D e + j)))) → (∀ x, (x < f ∨ f + sS n D d ≤ x) → X x = σ r_Md_then x) → (R97 A) → (R97 X) → (D + 1 - d).toNat < N → en_wp k_X12_plains 2 [some (.inr (.inr (r_Md, 0))), some (.inr (.inr (r_Md_then, 0))), some (.inl f), some (.inl d), none] [] (srl σ [(r_Md_row, A), (r_Md_then, X)]) (fun r σ' => ∃ (f_Md_row : Int → Int), ∃ (f_Md_then : Int → Int), r = none ∧ σ' = srl σ [(r_Md_row, f_Md_row), (r_Md_then, f_Md_then)] ∧ (nfR n D p LW (fun x => (σ r_Md_then) (f + x)) (fun x => f_Md_then (f + x))) ∧ (∀ x, (x < f ∨ f + sS n D (D + 1) ≤ x) → f_Md_then x = (σ r_Md_then) x) ∧ (R97 f_Md_row) ∧ (R97 f_Md_then) ∧ (∀ x, 0 ≤ x → x < sS n D (D + 1) → f_Md_then (f + x) < p)) := by
    intro N
    induction N with
    | zero => intro d A X; intros; omega
    | succ N ih_2 =>
      intro d A X hd hN hX hA hX3 hN_2
      have hWb := sW_b (k := d) hO
      have hSb := sS_b (k := d) hO
      have hSb1 := sS_b (k := d + 1) hO
      have hSs := sS_succ (n := n) (D := D) (k := d) (by omega)
      have hSm : d ≤ D → sS n D (d + 1) ≤ sS n D (D + 1) := fun h9 => sS_mono hO.1.1 (by omega)
      have L_63 : ∀ (N : Nat) (k : Int) (B : Int → Int) (X2 : Int → Int), (d ≤ D) → (0 ≤ k ∧ k ≤ sW n D d) → (R97 B) → (isNF p (sW n D d) (nV n D p LW d.toNat) (fun j => σ r_Md_then (f + (sS n D d + j))) B) → (X2 = seg X (f + sS n D d) k B) → (sW n D d - k).toNat < N → en_wp k_X12_plains 63 [some (.inr (.inr (r_Md, 0))), some (.inr (.inr (r_Md_then, 0))), some (.inl f), some (.inl d), some (.inl k)] [] (srl σ [(r_Md_row, B), (r_Md_then, X2)]) (fun r σ' => ∃ (f_Md_row : Int → Int), ∃ (f_Md_then : Int → Int), r = none ∧ σ' = srl σ [(r_Md_row, f_Md_row), (r_Md_then, f_Md_then)] ∧ (nfR n D p LW (fun x => (σ r_Md_then) (f + x)) (fun x => f_Md_then (f + x))) ∧ (∀ x, (x < f ∨ f + sS n D (D + 1) ≤ x) → f_Md_then x = (σ r_Md_then) x) ∧ (R97 f_Md_row) ∧ (R97 f_Md_then) ∧ (∀ x, 0 ≤ x → x < sS n D (D + 1) → f_Md_then (f + x) < p)) := by
        intro N
        induction N with
        | zero => intro k B X2; intros; omega
        | succ N ih_63 =>
          intro k B X2 hdD hk hB1 hB2 hX2 hN_63
          refine wp_run 3 (pc' := 67) (ls' := [some (.inr (.inr (r_Md, 0))), some (.inr (.inr (r_Md_then, 0))), some (.inl f), some (.inl d), some (.inl k)]) (st' := [.inl d, .inr (.inr (r_Md, 0)), .inl k]) (σ' := srl σ [(r_Md_row, B), (r_Md_then, X2)]) rfl ?_
          refine wp_fnv (v := .inl (sW n D d)) rfl rfl rfl rfl (ct_X12_wide (srl σ [(r_Md_row, B), (r_Md_then, X2)]) n D p d hI (by omega)) ?_
          show en_wp k_X12_plains 70 [some (.inr (.inr (r_Md, 0))), some (.inr (.inr (r_Md_then, 0))), some (.inl f), some (.inl d), some (.inl k)] [.inl (sW n D d), .inl k] (srl σ [(r_Md_row, B), (r_Md_then, X2)]) _
          have q_1 : 0 ≤ sW n D d ∧ sW n D d ≤ 256 := sW_b hO
          refine wp_ic_ge rfl (by omega) (by omega) (fun h_2 => ?_) (fun h_2 => ?_)
          · show en_wp k_X12_plains 98 [some (.inr (.inr (r_Md, 0))), some (.inr (.inr (r_Md_then, 0))), some (.inl f), some (.inl d), some (.inl k)] [] (srl σ [(r_Md_row, B), (r_Md_then, X2)]) _
            refine wp_run 2 (pc' := 2) (ls' := [some (.inr (.inr (r_Md, 0))), some (.inr (.inr (r_Md_then, 0))), some (.inl f), some (.inl (d + 1)), some (.inl k)]) (st' := []) (σ' := srl σ [(r_Md_row, B), (r_Md_then, X2)]) rfl ?_
            refine wp_sub (l := [some (.inr (.inr (r_Md, 0))), some (.inr (.inr (r_Md_then, 0))), some (.inl f), some (.inl (d + 1)), none]) (And.intro rfl (And.intro rfl (And.intro rfl (And.intro rfl trivial)))) ?_
            exact ih_2 (d + 1) B X2 (by omega) (fun e h8 h9 => by rcases Int.lt_or_eq_of_le (show e ≤ d by omega) with h5 | h5 <;> first | exact nf_dst (hN e h8 h5) (fun j a1 a2 => by have h1 := sS_word hO h8 ⟨a1, a2⟩; have h2 := sS_mono (D := D) hO.1.1 (show e + 1 ≤ d by omega); rw [hX2, seg_out (by omega)]) (nV_subI (by omega) (by omega) h8) | (rw [h5]; exact nf_dst hB2 (fun j a1 a2 => by rw [hX2, ← Int.add_assoc, seg_in (by omega)]) (nV_subI (by omega) (by omega) (by omega)))) (fun x h => by rw [hX2, seg_out (by omega)]; exact hX x (by omega)) hB1 (by rw [hX2]; exact R97_seg hX3 (fun _ _ _ => hB1 _)) (by omega)
          · show en_wp k_X12_plains 73 [some (.inr (.inr (r_Md, 0))), some (.inr (.inr (r_Md_then, 0))), some (.inl f), some (.inl d), some (.inl k)] [] (srl σ [(r_Md_row, B), (r_Md_then, X2)]) _
            refine wp_run 4 (pc' := 77) (ls' := [some (.inr (.inr (r_Md, 0))), some (.inr (.inr (r_Md_then, 0))), some (.inl f), some (.inl d), some (.inl k)]) (st' := [.inl d, .inr (.inr (r_Md, 0)), .inl f, .inr (.inr (r_Md_then, 0))]) (σ' := srl σ [(r_Md_row, B), (r_Md_then, X2)]) rfl ?_
            refine wp_fnv (v := .inl (sS n D d)) rfl rfl rfl rfl (ct_X12_start (srl σ [(r_Md_row, B), (r_Md_then, X2)]) n D p d hI (by omega)) ?_
            show en_wp k_X12_plains 80 [some (.inr (.inr (r_Md, 0))), some (.inr (.inr (r_Md_then, 0))), some (.inl f), some (.inl d), some (.inl k)] [.inl (sS n D d), .inl f, .inr (.inr (r_Md_then, 0))] (srl σ [(r_Md_row, B), (r_Md_then, X2)]) _
            have q_3 : 0 ≤ sS n D d ∧ sS n D d ≤ 364 := sS_b hO
            refine wp_run 6 (pc' := 90) (ls' := [some (.inr (.inr (r_Md, 0))), some (.inr (.inr (r_Md_then, 0))), some (.inl f), some (.inl d), some (.inl k)]) (st' := [.inl k, .inr (.inr (r_Md_row, 0)), .inl ((f + (sS n D d)) + k), .inr (.inr (r_Md_then, 0))]) (σ' := srl σ [(r_Md_row, B), (r_Md_then, X2)]) rfl ?_
            refine wp_iald0 rfl rfl (by omega) ?_
            show en_wp k_X12_plains 91 [some (.inr (.inr (r_Md, 0))), some (.inr (.inr (r_Md_then, 0))), some (.inl f), some (.inl d), some (.inl k)] [.inl (B k), .inl ((f + (sS n D d)) + k), .inr (.inr (r_Md_then, 0))] (srl σ [(r_Md_row, B), (r_Md_then, X2)]) _
            refine wp_iast0 rfl rfl (by omega) (wp_wr (l2 := [(r_Md_row, B), (r_Md_then, (up X2 ((f + (sS n D d)) + k) (B k)))]) rfl ?_)
            show en_wp k_X12_plains 92 [some (.inr (.inr (r_Md, 0))), some (.inr (.inr (r_Md_then, 0))), some (.inl f), some (.inl d), some (.inl k)] [] (srl σ [(r_Md_row, B), (r_Md_then, (up X2 ((f + (sS n D d)) + k) (B k)))]) _
            refine wp_run 2 (pc' := 63) (ls' := [some (.inr (.inr (r_Md, 0))), some (.inr (.inr (r_Md_then, 0))), some (.inl f), some (.inl d), some (.inl (k + 1))]) (st' := []) (σ' := srl σ [(r_Md_row, B), (r_Md_then, (up X2 ((f + (sS n D d)) + k) (B k)))]) rfl ?_
            exact ih_63 (k + 1) B (up X2 ((f + (sS n D d)) + k) (B k)) (by omega) (by omega) hB1 hB2 (by rw [hX2]; exact seg_up hk.1 rfl) (by omega)
      have L_18 : ∀ (N : Nat) (k : Int) (B : Int → Int), (d ≤ D) → (0 ≤ k ∧ k ≤ sW n D d) → (B = seg A 0 k (fun j => X (f + sS n D d + j))) → (sW n D d - k).toNat < N → en_wp k_X12_plains 18 [some (.inr (.inr (r_Md, 0))), some (.inr (.inr (r_Md_then, 0))), some (.inl f), some (.inl d), some (.inl k)] [] (srl σ [(r_Md_row, B), (r_Md_then, X)]) (fun r σ' => ∃ (f_Md_row : Int → Int), ∃ (f_Md_then : Int → Int), r = none ∧ σ' = srl σ [(r_Md_row, f_Md_row), (r_Md_then, f_Md_then)] ∧ (nfR n D p LW (fun x => (σ r_Md_then) (f + x)) (fun x => f_Md_then (f + x))) ∧ (∀ x, (x < f ∨ f + sS n D (D + 1) ≤ x) → f_Md_then x = (σ r_Md_then) x) ∧ (R97 f_Md_row) ∧ (R97 f_Md_then) ∧ (∀ x, 0 ≤ x → x < sS n D (D + 1) → f_Md_then (f + x) < p)) := by
        intro N
        induction N with
        | zero => intro k B; intros; omega
        | succ N ih_18 =>
          intro k B hdD hk hB hN_18
          refine wp_run 3 (pc' := 22) (ls' := [some (.inr (.inr (r_Md, 0))), some (.inr (.inr (r_Md_then, 0))), some (.inl f), some (.inl d), some (.inl k)]) (st' := [.inl d, .inr (.inr (r_Md, 0)), .inl k]) (σ' := srl σ [(r_Md_row, B), (r_Md_then, X)]) rfl ?_
          refine wp_fnv (v := .inl (sW n D d)) rfl rfl rfl rfl (ct_X12_wide (srl σ [(r_Md_row, B), (r_Md_then, X)]) n D p d hI (by omega)) ?_
          show en_wp k_X12_plains 25 [some (.inr (.inr (r_Md, 0))), some (.inr (.inr (r_Md_then, 0))), some (.inl f), some (.inl d), some (.inl k)] [.inl (sW n D d), .inl k] (srl σ [(r_Md_row, B), (r_Md_then, X)]) _
          have q_4 : 0 ≤ sW n D d ∧ sW n D d ≤ 256 := sW_b hO
          refine wp_ic_ge rfl (by omega) (by omega) (fun h_5 => ?_) (fun h_5 => ?_)
          · show en_wp k_X12_plains 53 [some (.inr (.inr (r_Md, 0))), some (.inr (.inr (r_Md_then, 0))), some (.inl f), some (.inl d), some (.inl k)] [] (srl σ [(r_Md_row, B), (r_Md_then, X)]) _
            refine wp_run 3 (pc' := 56) (ls' := [some (.inr (.inr (r_Md, 0))), some (.inr (.inr (r_Md_then, 0))), some (.inl f), some (.inl d), some (.inl k)]) (st' := [.inl d, .inl 0, .inr (.inr (r_Md, 0))]) (σ' := srl σ [(r_Md_row, B), (r_Md_then, X)]) rfl ?_
            have hkW : k = sW n D d := by omega
            rw [hkW] at hB
            have hBx : ∀ j, 0 ≤ j → j < sW n D d → B j = σ r_Md_then (f + (sS n D d + j)) := fun j h8 h9 => by
              rw [hB, seg_in0 ⟨h8, h9⟩, hX _ (.inr (by omega)), Int.add_assoc]
            have hB97 : R97 B := by
              rw [hB]
              exact R97_seg hA (fun _ _ _ => hX3 _)
            have hBp : ∀ j, 0 ≤ j → j < sW n D d → 0 ≤ B j ∧ B j < p := fun j h8 h9 => by
              rw [hBx j h8 h9]
              have h7 := hSm hdD
              exact ⟨(hof2 _).1, hop2 _ (by omega) (by omega)⟩
            have hNd := hN1 d (by omega) (by omega)
            refine wp_callv rfl rfl rfl rfl (ct_X12_reduces (srl σ [(r_Md_row, B), (r_Md_then, X)]) n D p 0 d hI (by omega) (by omega) hNd.1 hB97 hN2 hN3 hBp (fun k h0 h1 e => hNd.2.1.2.1 k h0 h1 e)) ?_
            rintro _ _ ⟨f_6, r_7, rfl, rfl, p_8⟩
            have p_8 : rdI p (sW n D d) (fun x => (σ r_Md_leads) (400 * 0 + sS n D d + x)) (fun k x => (σ r_Md_rows) (70000 * 0 + sQ n D d + k * sW n D d + x)) (B) f_6 (-1) r_7 := p_8
            refine wp_bk (l2 := [(r_Md_row, f_6), (r_Md_then, X)]) rfl rfl ?_
            show en_wp k_X12_plains 59 [some (.inr (.inr (r_Md, 0))), some (.inr (.inr (r_Md_then, 0))), some (.inl f), some (.inl d), some (.inl k)] [.inl r_7] (srl σ [(r_Md_row, f_6), (r_Md_then, X)]) _
            have hrd := p_8
            have hnf := nf_src (mD_sub hNd.2.1) (mD_rd hNd.2.1 hO.2.2.2 hrd) (b := fun j => σ r_Md_then (f + (sS n D d + j))) hBx
            refine wp_run 3 (pc' := 63) (ls' := [some (.inr (.inr (r_Md, 0))), some (.inr (.inr (r_Md_then, 0))), some (.inl f), some (.inl d), some (.inl 0)]) (st' := []) (σ' := srl σ [(r_Md_row, f_6), (r_Md_then, X)]) rfl ?_
            exact L_63 _ 0 f_6 X (by omega) (by omega) hrd.1 hnf (seg_0 _ _ _).symm (Nat.lt_succ_self _)
          · show en_wp k_X12_plains 28 [some (.inr (.inr (r_Md, 0))), some (.inr (.inr (r_Md_then, 0))), some (.inl f), some (.inl d), some (.inl k)] [] (srl σ [(r_Md_row, B), (r_Md_then, X)]) _
            refine wp_run 7 (pc' := 38) (ls' := [some (.inr (.inr (r_Md, 0))), some (.inr (.inr (r_Md_then, 0))), some (.inl f), some (.inl d), some (.inl k)]) (st' := [.inl d, .inr (.inr (r_Md, 0)), .inl f, .inr (.inr (r_Md_then, 0)), .inl k, .inr (.inr (r_Md_row, 0))]) (σ' := srl σ [(r_Md_row, B), (r_Md_then, X)]) rfl ?_
            refine wp_fnv (v := .inl (sS n D d)) rfl rfl rfl rfl (ct_X12_start (srl σ [(r_Md_row, B), (r_Md_then, X)]) n D p d hI (by omega)) ?_
            show en_wp k_X12_plains 41 [some (.inr (.inr (r_Md, 0))), some (.inr (.inr (r_Md_then, 0))), some (.inl f), some (.inl d), some (.inl k)] [.inl (sS n D d), .inl f, .inr (.inr (r_Md_then, 0)), .inl k, .inr (.inr (r_Md_row, 0))] (srl σ [(r_Md_row, B), (r_Md_then, X)]) _
            have q_9 : 0 ≤ sS n D d ∧ sS n D d ≤ 364 := sS_b hO
            refine wp_run 3 (pc' := 45) (ls' := [some (.inr (.inr (r_Md, 0))), some (.inr (.inr (r_Md_then, 0))), some (.inl f), some (.inl d), some (.inl k)]) (st' := [.inl ((f + (sS n D d)) + k), .inr (.inr (r_Md_then, 0)), .inl k, .inr (.inr (r_Md_row, 0))]) (σ' := srl σ [(r_Md_row, B), (r_Md_then, X)]) rfl ?_
            refine wp_iald0 rfl rfl (by omega) ?_
            show en_wp k_X12_plains 46 [some (.inr (.inr (r_Md, 0))), some (.inr (.inr (r_Md_then, 0))), some (.inl f), some (.inl d), some (.inl k)] [.inl (X ((f + (sS n D d)) + k)), .inl k, .inr (.inr (r_Md_row, 0))] (srl σ [(r_Md_row, B), (r_Md_then, X)]) _
            refine wp_iast0 rfl rfl (by omega) (wp_wr (l2 := [(r_Md_row, (up B k (X ((f + (sS n D d)) + k)))), (r_Md_then, X)]) rfl ?_)
            show en_wp k_X12_plains 47 [some (.inr (.inr (r_Md, 0))), some (.inr (.inr (r_Md_then, 0))), some (.inl f), some (.inl d), some (.inl k)] [] (srl σ [(r_Md_row, (up B k (X ((f + (sS n D d)) + k)))), (r_Md_then, X)]) _
            refine wp_run 2 (pc' := 18) (ls' := [some (.inr (.inr (r_Md, 0))), some (.inr (.inr (r_Md_then, 0))), some (.inl f), some (.inl d), some (.inl (k + 1))]) (st' := []) (σ' := srl σ [(r_Md_row, (up B k (X ((f + (sS n D d)) + k)))), (r_Md_then, X)]) rfl ?_
            exact ih_18 (k + 1) (up B k (X ((f + (sS n D d)) + k))) (by omega) (by omega) (by rw [hB]; exact seg_up0 hk.1 rfl) (by omega)
      refine wp_run 5 (pc' := 11) (ls' := [some (.inr (.inr (r_Md, 0))), some (.inr (.inr (r_Md_then, 0))), some (.inl f), some (.inl d), none]) (st' := [.inl (σ r_Md_live 0), .inr (.inr (r_Md_degree, 0)), .inl d]) (σ' := srl σ [(r_Md_row, A), (r_Md_then, X)]) rfl ?_
      refine wp_iald0 rfl rfl (by omega) ?_
      show en_wp k_X12_plains 12 [some (.inr (.inr (r_Md, 0))), some (.inr (.inr (r_Md_then, 0))), some (.inl f), some (.inl d), none] [.inl (σ r_Md_degree (σ r_Md_live 0)), .inl d] (srl σ [(r_Md_row, A), (r_Md_then, X)]) _
      rw [hD]
      show en_wp k_X12_plains 12 [some (.inr (.inr (r_Md, 0))), some (.inr (.inr (r_Md_then, 0))), some (.inl f), some (.inl d), none] [.inl D, .inl d] (srl σ [(r_Md_row, A), (r_Md_then, X)]) _
      refine wp_ic_gt rfl (by omega) (by omega) (fun h_10 => ?_) (fun h_10 => ?_)
      · show en_wp k_X12_plains 104 [some (.inr (.inr (r_Md, 0))), some (.inr (.inr (r_Md_then, 0))), some (.inl f), some (.inl d), none] [] (srl σ [(r_Md_row, A), (r_Md_then, X)]) _
        exact wp_vret rfl ⟨A, X, rfl, srl_eq (l' := [(r_Md_row, A), (r_Md_then, X)]) (And.intro rfl (And.intro rfl trivial)) (And.intro rfl (And.intro rfl trivial)), (nfR_fin hO hN (by omega) hX hA hX3)⟩
      · show en_wp k_X12_plains 15 [some (.inr (.inr (r_Md, 0))), some (.inr (.inr (r_Md_then, 0))), some (.inl f), some (.inl d), none] [] (srl σ [(r_Md_row, A), (r_Md_then, X)]) _
        refine wp_run 2 (pc' := 18) (ls' := [some (.inr (.inr (r_Md, 0))), some (.inr (.inr (r_Md_then, 0))), some (.inl f), some (.inl d), some (.inl 0)]) (st' := []) (σ' := srl σ [(r_Md_row, A), (r_Md_then, X)]) rfl ?_
        exact L_18 _ 0 A (by omega) (by omega) (seg_0 _ _ _).symm (Nat.lt_succ_self _)
  refine wp_run 2 (pc' := 2) (ls' := [some (.inr (.inr (r_Md, 0))), some (.inr (.inr (r_Md_then, 0))), some (.inl f), some (.inl 1), none]) (st' := []) (σ' := srl σ []) rfl ?_
  refine wp_mem (srl_eq (l' := [(r_Md_row, (σ r_Md_row)), (r_Md_then, (σ r_Md_then))]) trivial (And.intro rfl (And.intro rfl trivial))) ?_
  exact L_2 _ 1 (σ r_Md_row) (σ r_Md_then) (by omega) (fun e h8 h9 => by rw [show e = 0 by omega]; exact nf_zero (by omega) (by omega) (by show 0 ≤ σ r_Md_then (f + (sS n D 0 + 0)) ∧ σ r_Md_then (f + (sS n D 0 + 0)) < p; rw [sS_0]; exact ⟨(hof2 _).1, hop2 _ (by omega) (by have := sS_mono (D := D) hO.1.1 (show 1 ≤ D + 1 by omega); have h1 := sS_succ (n := n) (D := D) (k := 0) (by omega); rw [sS_0, sW_0 (by omega)] at h1; rw [show (0 : Int) + 1 = 1 from rfl] at h1; omega)⟩)) (fun _ _ => rfl) hrow hof (Nat.lt_succ_self _)
