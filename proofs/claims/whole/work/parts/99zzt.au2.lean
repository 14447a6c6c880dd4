/-! contracts of methods, walked (written by wip/whole/walk.py from the annotations ann_m63) -/
theorem ct_X10_termBegins (σ : en_m) (hk : 0 ≤ (σ r_Tokens_kind) 0 ∧ (σ r_Tokens_kind) 0 ≤ 12) (hd0 : 0 ≤ (σ r_Tokens_depth) 0 ∧ (σ r_Tokens_depth) 0 ≤ 10) (hle : 0 ≤ (σ r_Tokens_lettersSeen) 0 ∧ (σ r_Tokens_lettersSeen) 0 ≤ 10) (hla : 0 ≤ (σ r_Tokens_lawsSeen) 0 ∧ (σ r_Tokens_lawsSeen) 0 ≤ 10) (hme : (σ r_Tokens_mayEqual) 0 = 0 ∨ (σ r_Tokens_mayEqual) 0 = 1) (hal : (σ r_Tokens_sumAlone) 0 = 0 ∨ (σ r_Tokens_sumAlone) 0 = 1) : en_ct z_X10_termBegins [.inr (.inr (r_Tokens, 0))] σ (fun r σ' => ∃ (v_Tokens_due : Int → Int), ∃ (v_Tokens_depth : Int → Int), ∃ (rr : Int), r = some (.inl rr) ∧ σ' = srl σ [(r_Tokens_due, v_Tokens_due), (r_Tokens_depth, v_Tokens_depth)] ∧ ((rr = 1 ∧ mB ((σ r_Tokens_due) 0, (σ r_Tokens_depth) 0, (σ r_Tokens_lettersSeen) 0, (σ r_Tokens_lawsSeen) 0, (σ r_Tokens_mayEqual) 0) ((σ r_Tokens_kind) 0) = some ((v_Tokens_due 0), (v_Tokens_depth 0), (σ r_Tokens_lettersSeen) 0, (σ r_Tokens_lawsSeen) 0, (σ r_Tokens_mayEqual) 0)) ∨ (rr = 0 ∧ mB ((σ r_Tokens_due) 0, (σ r_Tokens_depth) 0, (σ r_Tokens_lettersSeen) 0, (σ r_Tokens_lawsSeen) 0, (σ r_Tokens_mayEqual) 0) ((σ r_Tokens_kind) 0) = none))) := by
  show en_wp k_X10_termBegins 0 [some (.inr (.inr (r_Tokens, 0)))] [] (srl σ []) (fun r σ' => ∃ (v_Tokens_due : Int → Int), ∃ (v_Tokens_depth : Int → Int), ∃ (rr : Int), r = some (.inl rr) ∧ σ' = srl σ [(r_Tokens_due, v_Tokens_due), (r_Tokens_depth, v_Tokens_depth)] ∧ ((rr = 1 ∧ mB ((σ r_Tokens_due) 0, (σ r_Tokens_depth) 0, (σ r_Tokens_lettersSeen) 0, (σ r_Tokens_lawsSeen) 0, (σ r_Tokens_mayEqual) 0) ((σ r_Tokens_kind) 0) = some ((v_Tokens_due 0), (v_Tokens_depth 0), (σ r_Tokens_lettersSeen) 0, (σ r_Tokens_lawsSeen) 0, (σ r_Tokens_mayEqual) 0)) ∨ (rr = 0 ∧ mB ((σ r_Tokens_due) 0, (σ r_Tokens_depth) 0, (σ r_Tokens_lettersSeen) 0, (σ r_Tokens_lawsSeen) 0, (σ r_Tokens_mayEqual) 0) ((σ r_Tokens_kind) 0) = none)))
  refine wp_run 3 (pc' := 6) (ls' := [some (.inr (.inr (r_Tokens, 0)))]) (st' := [.inl 6, .inl (σ r_Tokens_kind 0)]) (σ' := srl σ []) rfl ?_
  refine wp_ic_ne rfl (by omega) (by omega) (fun h_1 => ?_) (fun h_1 => ?_)
  · show en_wp k_X10_termBegins 19 [some (.inr (.inr (r_Tokens, 0)))] [] (srl σ []) _
    refine wp_run 1 (pc' := 20) (ls' := [some (.inr (.inr (r_Tokens, 0)))]) (st' := [.inr (.inr (r_Tokens, 0))]) (σ' := srl σ []) rfl ?_
    refine wp_callv rfl rfl rfl rfl (ct_X10_factorBegins σ hk hd0 hle hla hme hal) ?_
    rintro _ _ ⟨v_2, v_3, r_4, rfl, rfl, p_5⟩
    have p_5 : (r_4 = 1 ∧ fB ((σ r_Tokens_due) 0, (σ r_Tokens_depth) 0, (σ r_Tokens_lettersSeen) 0, (σ r_Tokens_lawsSeen) 0, (σ r_Tokens_mayEqual) 0) ((σ r_Tokens_kind) 0) = some ((v_2 0), (v_3 0), (σ r_Tokens_lettersSeen) 0, (σ r_Tokens_lawsSeen) 0, (σ r_Tokens_mayEqual) 0)) ∨ (r_4 = 0 ∧ fB ((σ r_Tokens_due) 0, (σ r_Tokens_depth) 0, (σ r_Tokens_lettersSeen) 0, (σ r_Tokens_lawsSeen) 0, (σ r_Tokens_mayEqual) 0) ((σ r_Tokens_kind) 0) = none) := p_5
    show en_wp k_X10_termBegins 23 [some (.inr (.inr (r_Tokens, 0)))] [.inl r_4] (srl σ [(r_Tokens_due, v_2), (r_Tokens_depth, v_3)]) _
    have kf := (p_5)
    exact wp_zret rfl (by omega) ⟨v_2, v_3, r_4, rfl, srl_eq (l' := [(r_Tokens_due, v_2), (r_Tokens_depth, v_3)]) (And.intro rfl (And.intro rfl trivial)) (And.intro rfl (And.intro rfl trivial)), (by unfold mB; simp_all)⟩
  · show en_wp k_X10_termBegins 9 [some (.inr (.inr (r_Tokens, 0)))] [] (srl σ []) _
    refine wp_run 3 (pc' := 13) (ls' := [some (.inr (.inr (r_Tokens, 0)))]) (st' := [.inl 6, .inl 1, .inr (.inr (r_Tokens, 0))]) (σ' := srl σ []) rfl ?_
    refine wp_callv rfl rfl rfl rfl (ct_X10_goOn σ 1 6 (by omega)) ?_
    rintro _ _ ⟨v_6, r_7, rfl, rfl, p_8⟩
    have p_8 : r_7 = 1 ∧ (v_6 0) = if 1 = 0 then (σ r_Tokens_due) 0 else 6 := p_8
    show en_wp k_X10_termBegins 16 [some (.inr (.inr (r_Tokens, 0)))] [.inl r_7] (srl σ [(r_Tokens_due, v_6)]) _
    have kg := (p_8)
    refine wp_run 1 (pc' := 23) (ls' := [some (.inr (.inr (r_Tokens, 0)))]) (st' := [.inl r_7]) (σ' := srl σ [(r_Tokens_due, v_6)]) rfl ?_
    exact wp_zret rfl (by omega) ⟨v_6, (σ r_Tokens_depth), r_7, rfl, srl_eq (l' := [(r_Tokens_due, v_6), (r_Tokens_depth, σ r_Tokens_depth)]) (And.intro rfl trivial) (And.intro rfl (And.intro rfl trivial)), (by unfold mB; simp_all)⟩
theorem ct_X10_termGoesOn (σ : en_m) (hk : 0 ≤ (σ r_Tokens_kind) 0 ∧ (σ r_Tokens_kind) 0 ≤ 12) (hd0 : 0 ≤ (σ r_Tokens_depth) 0 ∧ (σ r_Tokens_depth) 0 ≤ 10) (hle : 0 ≤ (σ r_Tokens_lettersSeen) 0 ∧ (σ r_Tokens_lettersSeen) 0 ≤ 10) (hla : 0 ≤ (σ r_Tokens_lawsSeen) 0 ∧ (σ r_Tokens_lawsSeen) 0 ≤ 10) (hme : (σ r_Tokens_mayEqual) 0 = 0 ∨ (σ r_Tokens_mayEqual) 0 = 1) (hal : (σ r_Tokens_sumAlone) 0 = 0 ∨ (σ r_Tokens_sumAlone) 0 = 1) : en_ct z_X10_termGoesOn [.inr (.inr (r_Tokens, 0))] σ (fun r σ' => ∃ (v_Tokens_due : Int → Int), ∃ (v_Tokens_depth : Int → Int), ∃ (v_Tokens_mayEqual : Int → Int), ∃ (rr : Int), r = some (.inl rr) ∧ σ' = srl σ [(r_Tokens_due, v_Tokens_due), (r_Tokens_depth, v_Tokens_depth), (r_Tokens_mayEqual, v_Tokens_mayEqual)] ∧ ((rr = 1 ∧ tG ((σ r_Tokens_sumAlone) 0) ((σ r_Tokens_due) 0, (σ r_Tokens_depth) 0, (σ r_Tokens_lettersSeen) 0, (σ r_Tokens_lawsSeen) 0, (σ r_Tokens_mayEqual) 0) ((σ r_Tokens_kind) 0) = some ((v_Tokens_due 0), (v_Tokens_depth 0), (σ r_Tokens_lettersSeen) 0, (σ r_Tokens_lawsSeen) 0, (v_Tokens_mayEqual 0))) ∨ (rr = 0 ∧ tG ((σ r_Tokens_sumAlone) 0) ((σ r_Tokens_due) 0, (σ r_Tokens_depth) 0, (σ r_Tokens_lettersSeen) 0, (σ r_Tokens_lawsSeen) 0, (σ r_Tokens_mayEqual) 0) ((σ r_Tokens_kind) 0) = none))) := by
  show en_wp k_X10_termGoesOn 0 [some (.inr (.inr (r_Tokens, 0))), none, none] [] (srl σ []) (fun r σ' => ∃ (v_Tokens_due : Int → Int), ∃ (v_Tokens_depth : Int → Int), ∃ (v_Tokens_mayEqual : Int → Int), ∃ (rr : Int), r = some (.inl rr) ∧ σ' = srl σ [(r_Tokens_due, v_Tokens_due), (r_Tokens_depth, v_Tokens_depth), (r_Tokens_mayEqual, v_Tokens_mayEqual)] ∧ ((rr = 1 ∧ tG ((σ r_Tokens_sumAlone) 0) ((σ r_Tokens_due) 0, (σ r_Tokens_depth) 0, (σ r_Tokens_lettersSeen) 0, (σ r_Tokens_lawsSeen) 0, (σ r_Tokens_mayEqual) 0) ((σ r_Tokens_kind) 0) = some ((v_Tokens_due 0), (v_Tokens_depth 0), (σ r_Tokens_lettersSeen) 0, (σ r_Tokens_lawsSeen) 0, (v_Tokens_mayEqual 0))) ∨ (rr = 0 ∧ tG ((σ r_Tokens_sumAlone) 0) ((σ r_Tokens_due) 0, (σ r_Tokens_depth) 0, (σ r_Tokens_lettersSeen) 0, (σ r_Tokens_lawsSeen) 0, (σ r_Tokens_mayEqual) 0) ((σ r_Tokens_kind) 0) = none)))
  refine wp_run 2 (pc' := 4) (ls' := [some (.inr (.inr (r_Tokens, 0))), none, none]) (st' := [.inl (σ r_Tokens_depth 0)]) (σ' := srl σ []) rfl ?_
  refine wp_if_ne rfl (by omega) (fun h_1 => ?_) (fun h_1 => ?_)
  · show en_wp k_X10_termGoesOn 18 [some (.inr (.inr (r_Tokens, 0))), none, none] [] (srl σ []) _
    refine wp_run 4 (pc' := 24) (ls' := [some (.inr (.inr (r_Tokens, 0))), some (.inl 0), none]) (st' := [.inl (σ r_Tokens_kind 0)]) (σ' := srl σ []) rfl ?_
    have h_2 : (σ r_Tokens_kind 0) = 7 ∨ (σ r_Tokens_kind 0) = 8 ∨ (σ r_Tokens_kind 0) = 9 ∨ (σ r_Tokens_kind 0) = 10 ∨ (σ r_Tokens_kind 0) = 11 ∨ (σ r_Tokens_kind 0) = 12 ∨ (¬ (σ r_Tokens_kind 0) = 7 ∧ ¬ (σ r_Tokens_kind 0) = 8 ∧ ¬ (σ r_Tokens_kind 0) = 9 ∧ ¬ (σ r_Tokens_kind 0) = 10 ∧ ¬ (σ r_Tokens_kind 0) = 11 ∧ ¬ (σ r_Tokens_kind 0) = 12) := by omega
    rcases h_2 with h_2 | h_2 | h_2 | h_2 | h_2 | h_2 | h_2
    · refine wp_top h_2 ?_
      refine wp_run 4 (pc' := 132) (ls' := [some (.inr (.inr (r_Tokens, 0))), some (.inl 0), none]) (st' := [.inl 0, .inl 0, .inr (.inr (r_Tokens, 0))]) (σ' := srl σ []) rfl ?_
      refine wp_callv rfl rfl rfl rfl (ct_X10_goOn σ 0 0 (by omega)) ?_
      rintro _ _ ⟨v_3, r_4, rfl, rfl, p_5⟩
      have p_5 : r_4 = 0 ∧ (v_3 0) = if 0 = 0 then (σ r_Tokens_due) 0 else 0 := p_5
      show en_wp k_X10_termGoesOn 135 [some (.inr (.inr (r_Tokens, 0))), some (.inl 0), none] [.inl r_4] (srl σ [(r_Tokens_due, v_3)]) _
      have kg := (p_5)
      exact wp_zret rfl (by omega) ⟨v_3, (σ r_Tokens_depth), (σ r_Tokens_mayEqual), r_4, rfl, srl_eq (l' := [(r_Tokens_due, v_3), (r_Tokens_depth, σ r_Tokens_depth), (r_Tokens_mayEqual, σ r_Tokens_mayEqual)]) (And.intro rfl trivial) (And.intro rfl (And.intro rfl (And.intro rfl trivial))), (by unfold tG; simp_all <;> omega)⟩
    · refine wp_top h_2 ?_
      refine wp_run 7 (pc' := 119) (ls' := [some (.inr (.inr (r_Tokens, 0))), some (.inl 0), some (.inl 0)]) (st' := [.inl 0, .inr (.inr (r_Tokens, 0))]) (σ' := srl σ []) rfl ?_
      refine wp_put1 rfl rfl rfl rfl (by omega) (wp_wr (l2 := [(r_Tokens_mayEqual, (fun _ => 0))]) rfl ?_)
      show en_wp k_X10_termGoesOn 122 [some (.inr (.inr (r_Tokens, 0))), some (.inl 0), some (.inl 0)] [] (srl σ [(r_Tokens_mayEqual, (fun _ => 0))]) _
      refine wp_run 3 (pc' := 125) (ls' := [some (.inr (.inr (r_Tokens, 0))), some (.inl 0), some (.inl 0)]) (st' := [.inl 4, .inl 0, .inr (.inr (r_Tokens, 0))]) (σ' := srl σ [(r_Tokens_mayEqual, (fun _ => 0))]) rfl ?_
      refine wp_callv rfl rfl rfl rfl (ct_X10_goOn (srl σ [(r_Tokens_mayEqual, (fun _ => 0))]) 0 4 (by omega)) ?_
      rintro _ _ ⟨v_6, r_7, rfl, rfl, p_8⟩
      have p_8 : r_7 = 0 ∧ (v_6 0) = if 0 = 0 then (σ r_Tokens_due) 0 else 4 := p_8
      refine wp_bk (l2 := [(r_Tokens_mayEqual, (fun _ => 0)), (r_Tokens_due, v_6)]) rfl rfl ?_
      show en_wp k_X10_termGoesOn 128 [some (.inr (.inr (r_Tokens, 0))), some (.inl 0), some (.inl 0)] [.inl r_7] (srl σ [(r_Tokens_mayEqual, (fun _ => 0)), (r_Tokens_due, v_6)]) _
      have kg := (p_8)
      exact wp_zret rfl (by omega) ⟨v_6, (σ r_Tokens_depth), (fun _ => 0), r_7, rfl, srl_eq (l' := [(r_Tokens_due, v_6), (r_Tokens_depth, σ r_Tokens_depth), (r_Tokens_mayEqual, (fun _ => 0))]) (And.intro rfl (And.intro rfl trivial)) (And.intro rfl (And.intro rfl (And.intro rfl trivial))), (by unfold tG; simp_all <;> omega)⟩
    · refine wp_top h_2 ?_
      refine wp_run 4 (pc' := 67) (ls' := [some (.inr (.inr (r_Tokens, 0))), some (.inl 0), none]) (st' := [.inl 5, .inl 1, .inr (.inr (r_Tokens, 0))]) (σ' := srl σ []) rfl ?_
      refine wp_callv rfl rfl rfl rfl (ct_X10_goOn σ 1 5 (by omega)) ?_
      rintro _ _ ⟨v_9, r_10, rfl, rfl, p_11⟩
      have p_11 : r_10 = 1 ∧ (v_9 0) = if 1 = 0 then (σ r_Tokens_due) 0 else 5 := p_11
      show en_wp k_X10_termGoesOn 70 [some (.inr (.inr (r_Tokens, 0))), some (.inl 0), none] [.inl r_10] (srl σ [(r_Tokens_due, v_9)]) _
      have kg := (p_11)
      exact wp_zret rfl (by omega) ⟨v_9, (σ r_Tokens_depth), (σ r_Tokens_mayEqual), r_10, rfl, srl_eq (l' := [(r_Tokens_due, v_9), (r_Tokens_depth, σ r_Tokens_depth), (r_Tokens_mayEqual, σ r_Tokens_mayEqual)]) (And.intro rfl trivial) (And.intro rfl (And.intro rfl (And.intro rfl trivial))), (by unfold tG; simp_all <;> omega)⟩
    · refine wp_top h_2 ?_
      refine wp_run 4 (pc' := 67) (ls' := [some (.inr (.inr (r_Tokens, 0))), some (.inl 0), none]) (st' := [.inl 5, .inl 1, .inr (.inr (r_Tokens, 0))]) (σ' := srl σ []) rfl ?_
      refine wp_callv rfl rfl rfl rfl (ct_X10_goOn σ 1 5 (by omega)) ?_
      rintro _ _ ⟨v_12, r_13, rfl, rfl, p_14⟩
      have p_14 : r_13 = 1 ∧ (v_12 0) = if 1 = 0 then (σ r_Tokens_due) 0 else 5 := p_14
      show en_wp k_X10_termGoesOn 70 [some (.inr (.inr (r_Tokens, 0))), some (.inl 0), none] [.inl r_13] (srl σ [(r_Tokens_due, v_12)]) _
      have kg := (p_14)
      exact wp_zret rfl (by omega) ⟨v_12, (σ r_Tokens_depth), (σ r_Tokens_mayEqual), r_13, rfl, srl_eq (l' := [(r_Tokens_due, v_12), (r_Tokens_depth, σ r_Tokens_depth), (r_Tokens_mayEqual, σ r_Tokens_mayEqual)]) (And.intro rfl trivial) (And.intro rfl (And.intro rfl (And.intro rfl trivial))), (by unfold tG; simp_all <;> omega)⟩
    · refine wp_top h_2 ?_
      refine wp_run 2 (pc' := 137) (ls' := [some (.inr (.inr (r_Tokens, 0))), some (.inl 0), none]) (st' := [.inr (.inr (r_Tokens, 0))]) (σ' := srl σ []) rfl ?_
      refine wp_callv rfl rfl rfl rfl (ct_X10_factorBegins σ hk hd0 hle hla hme hal) ?_
      rintro _ _ ⟨v_15, v_16, r_17, rfl, rfl, p_18⟩
      have p_18 : (r_17 = 1 ∧ fB ((σ r_Tokens_due) 0, (σ r_Tokens_depth) 0, (σ r_Tokens_lettersSeen) 0, (σ r_Tokens_lawsSeen) 0, (σ r_Tokens_mayEqual) 0) ((σ r_Tokens_kind) 0) = some ((v_15 0), (v_16 0), (σ r_Tokens_lettersSeen) 0, (σ r_Tokens_lawsSeen) 0, (σ r_Tokens_mayEqual) 0)) ∨ (r_17 = 0 ∧ fB ((σ r_Tokens_due) 0, (σ r_Tokens_depth) 0, (σ r_Tokens_lettersSeen) 0, (σ r_Tokens_lawsSeen) 0, (σ r_Tokens_mayEqual) 0) ((σ r_Tokens_kind) 0) = none) := p_18
      show en_wp k_X10_termGoesOn 140 [some (.inr (.inr (r_Tokens, 0))), some (.inl 0), none] [.inl r_17] (srl σ [(r_Tokens_due, v_15), (r_Tokens_depth, v_16)]) _
      have kf := (p_18)
      exact wp_zret rfl (by omega) ⟨v_15, v_16, (σ r_Tokens_mayEqual), r_17, rfl, srl_eq (l' := [(r_Tokens_due, v_15), (r_Tokens_depth, v_16), (r_Tokens_mayEqual, σ r_Tokens_mayEqual)]) (And.intro rfl (And.intro rfl trivial)) (And.intro rfl (And.intro rfl (And.intro rfl trivial))), (by unfold tG; simp_all <;> omega)⟩
    · refine wp_top h_2 ?_
      refine wp_run 6 (pc' := 78) (ls' := [some (.inr (.inr (r_Tokens, 0))), some (.inl 0), none]) (st' := [.inl ((σ r_Tokens_depth 0) - 1), .inr (.inr (r_Tokens, 0))]) (σ' := srl σ []) rfl ?_
      refine wp_st (x := (81, [some (.inr (.inr (r_Tokens, 0))), some (.inl 0), none], [], sr (srl σ []) r_Tokens_depth (fun _ => ((σ r_Tokens_depth 0) - 1)))) rfl rfl (wp_wr (l2 := [(r_Tokens_depth, (fun _ => ((σ r_Tokens_depth 0) - 1)))]) rfl ?_)
      show en_wp k_X10_termGoesOn 81 [some (.inr (.inr (r_Tokens, 0))), some (.inl 0), none] [] (srl σ [(r_Tokens_depth, (fun _ => ((σ r_Tokens_depth 0) - 1)))]) _
      refine wp_run 3 (pc' := 86) (ls' := [some (.inr (.inr (r_Tokens, 0))), some (.inl 0), none]) (st' := [.inl ((σ r_Tokens_depth 0) - 1), .inr (.inr (r_Tokens, 0))]) (σ' := srl σ [(r_Tokens_depth, (fun _ => ((σ r_Tokens_depth 0) - 1)))]) rfl ?_
      refine wp_if_lt rfl (by omega) (fun h_19 => ?_) (fun h_19 => ?_)
      · show en_wp k_X10_termGoesOn 93 [some (.inr (.inr (r_Tokens, 0))), some (.inl 0), none] [.inr (.inr (r_Tokens, 0))] (srl σ [(r_Tokens_depth, (fun _ => ((σ r_Tokens_depth 0) - 1)))]) _
        refine wp_run 2 (pc' := 96) (ls' := [some (.inr (.inr (r_Tokens, 0))), some (.inl 0), none]) (st' := [.inl 6, .inl 0, .inr (.inr (r_Tokens, 0))]) (σ' := srl σ [(r_Tokens_depth, (fun _ => ((σ r_Tokens_depth 0) - 1)))]) rfl ?_
        refine wp_callv rfl rfl rfl rfl (ct_X10_goOn (srl σ [(r_Tokens_depth, (fun _ => ((σ r_Tokens_depth 0) - 1)))]) 0 6 (by omega)) ?_
        rintro _ _ ⟨v_20, r_21, rfl, rfl, p_22⟩
        have p_22 : r_21 = 0 ∧ (v_20 0) = if 0 = 0 then (σ r_Tokens_due) 0 else 6 := p_22
        refine wp_bk (l2 := [(r_Tokens_depth, (fun _ => ((σ r_Tokens_depth 0) - 1))), (r_Tokens_due, v_20)]) rfl rfl ?_
        show en_wp k_X10_termGoesOn 99 [some (.inr (.inr (r_Tokens, 0))), some (.inl 0), none] [.inl r_21] (srl σ [(r_Tokens_depth, (fun _ => ((σ r_Tokens_depth 0) - 1))), (r_Tokens_due, v_20)]) _
        have kg := (p_22)
        exact wp_zret rfl (by omega) ⟨v_20, (fun _ => ((σ r_Tokens_depth 0) - 1)), (σ r_Tokens_mayEqual), r_21, rfl, srl_eq (l' := [(r_Tokens_due, v_20), (r_Tokens_depth, (fun _ => ((σ r_Tokens_depth 0) - 1))), (r_Tokens_mayEqual, σ r_Tokens_mayEqual)]) (And.intro rfl (And.intro rfl trivial)) (And.intro rfl (And.intro rfl (And.intro rfl trivial))), (by unfold tG; simp_all <;> omega)⟩
      · show en_wp k_X10_termGoesOn 89 [some (.inr (.inr (r_Tokens, 0))), some (.inl 0), none] [.inr (.inr (r_Tokens, 0))] (srl σ [(r_Tokens_depth, (fun _ => ((σ r_Tokens_depth 0) - 1)))]) _
        refine wp_run 3 (pc' := 96) (ls' := [some (.inr (.inr (r_Tokens, 0))), some (.inl 0), none]) (st' := [.inl 6, .inl 1, .inr (.inr (r_Tokens, 0))]) (σ' := srl σ [(r_Tokens_depth, (fun _ => ((σ r_Tokens_depth 0) - 1)))]) rfl ?_
        refine wp_callv rfl rfl rfl rfl (ct_X10_goOn (srl σ [(r_Tokens_depth, (fun _ => ((σ r_Tokens_depth 0) - 1)))]) 1 6 (by omega)) ?_
        rintro _ _ ⟨v_23, r_24, rfl, rfl, p_25⟩
        have p_25 : r_24 = 1 ∧ (v_23 0) = if 1 = 0 then (σ r_Tokens_due) 0 else 6 := p_25
        refine wp_bk (l2 := [(r_Tokens_depth, (fun _ => ((σ r_Tokens_depth 0) - 1))), (r_Tokens_due, v_23)]) rfl rfl ?_
        show en_wp k_X10_termGoesOn 99 [some (.inr (.inr (r_Tokens, 0))), some (.inl 0), none] [.inl r_24] (srl σ [(r_Tokens_depth, (fun _ => ((σ r_Tokens_depth 0) - 1))), (r_Tokens_due, v_23)]) _
        have kg := (p_25)
        exact wp_zret rfl (by omega) ⟨v_23, (fun _ => ((σ r_Tokens_depth 0) - 1)), (σ r_Tokens_mayEqual), r_24, rfl, srl_eq (l' := [(r_Tokens_due, v_23), (r_Tokens_depth, (fun _ => ((σ r_Tokens_depth 0) - 1))), (r_Tokens_mayEqual, σ r_Tokens_mayEqual)]) (And.intro rfl (And.intro rfl trivial)) (And.intro rfl (And.intro rfl (And.intro rfl trivial))), (by unfold tG; simp_all <;> omega)⟩
    · refine wp_sw_out rfl (by omega) (by omega) rfl ?_
      show en_wp k_X10_termGoesOn 136 [some (.inr (.inr (r_Tokens, 0))), some (.inl 0), none] [] (srl σ []) _
      refine wp_run 1 (pc' := 137) (ls' := [some (.inr (.inr (r_Tokens, 0))), some (.inl 0), none]) (st' := [.inr (.inr (r_Tokens, 0))]) (σ' := srl σ []) rfl ?_
      refine wp_callv rfl rfl rfl rfl (ct_X10_factorBegins σ hk hd0 hle hla hme hal) ?_
      rintro _ _ ⟨v_26, v_27, r_28, rfl, rfl, p_29⟩
      have p_29 : (r_28 = 1 ∧ fB ((σ r_Tokens_due) 0, (σ r_Tokens_depth) 0, (σ r_Tokens_lettersSeen) 0, (σ r_Tokens_lawsSeen) 0, (σ r_Tokens_mayEqual) 0) ((σ r_Tokens_kind) 0) = some ((v_26 0), (v_27 0), (σ r_Tokens_lettersSeen) 0, (σ r_Tokens_lawsSeen) 0, (σ r_Tokens_mayEqual) 0)) ∨ (r_28 = 0 ∧ fB ((σ r_Tokens_due) 0, (σ r_Tokens_depth) 0, (σ r_Tokens_lettersSeen) 0, (σ r_Tokens_lawsSeen) 0, (σ r_Tokens_mayEqual) 0) ((σ r_Tokens_kind) 0) = none) := p_29
      show en_wp k_X10_termGoesOn 140 [some (.inr (.inr (r_Tokens, 0))), some (.inl 0), none] [.inl r_28] (srl σ [(r_Tokens_due, v_26), (r_Tokens_depth, v_27)]) _
      have kf := (p_29)
      exact wp_zret rfl (by omega) ⟨v_26, v_27, (σ r_Tokens_mayEqual), r_28, rfl, srl_eq (l' := [(r_Tokens_due, v_26), (r_Tokens_depth, v_27), (r_Tokens_mayEqual, σ r_Tokens_mayEqual)]) (And.intro rfl (And.intro rfl trivial)) (And.intro rfl (And.intro rfl (And.intro rfl trivial))), (by unfold tG; simp_all <;> omega)⟩
  · show en_wp k_X10_termGoesOn 7 [some (.inr (.inr (r_Tokens, 0))), none, none] [] (srl σ []) _
    refine wp_run 2 (pc' := 11) (ls' := [some (.inr (.inr (r_Tokens, 0))), none, none]) (st' := [.inl (σ r_Tokens_sumAlone 0)]) (σ' := srl σ []) rfl ?_
    refine wp_if_ne rfl (by omega) (fun h_30 => ?_) (fun h_30 => ?_)
    · show en_wp k_X10_termGoesOn 18 [some (.inr (.inr (r_Tokens, 0))), none, none] [] (srl σ []) _
      refine wp_run 4 (pc' := 24) (ls' := [some (.inr (.inr (r_Tokens, 0))), some (.inl 0), none]) (st' := [.inl (σ r_Tokens_kind 0)]) (σ' := srl σ []) rfl ?_
      have h_31 : (σ r_Tokens_kind 0) = 7 ∨ (σ r_Tokens_kind 0) = 8 ∨ (σ r_Tokens_kind 0) = 9 ∨ (σ r_Tokens_kind 0) = 10 ∨ (σ r_Tokens_kind 0) = 11 ∨ (σ r_Tokens_kind 0) = 12 ∨ (¬ (σ r_Tokens_kind 0) = 7 ∧ ¬ (σ r_Tokens_kind 0) = 8 ∧ ¬ (σ r_Tokens_kind 0) = 9 ∧ ¬ (σ r_Tokens_kind 0) = 10 ∧ ¬ (σ r_Tokens_kind 0) = 11 ∧ ¬ (σ r_Tokens_kind 0) = 12) := by omega
      rcases h_31 with h_31 | h_31 | h_31 | h_31 | h_31 | h_31 | h_31
      · refine wp_top h_31 ?_
        refine wp_run 4 (pc' := 132) (ls' := [some (.inr (.inr (r_Tokens, 0))), some (.inl 0), none]) (st' := [.inl 0, .inl 0, .inr (.inr (r_Tokens, 0))]) (σ' := srl σ []) rfl ?_
        refine wp_callv rfl rfl rfl rfl (ct_X10_goOn σ 0 0 (by omega)) ?_
        rintro _ _ ⟨v_32, r_33, rfl, rfl, p_34⟩
        have p_34 : r_33 = 0 ∧ (v_32 0) = if 0 = 0 then (σ r_Tokens_due) 0 else 0 := p_34
        show en_wp k_X10_termGoesOn 135 [some (.inr (.inr (r_Tokens, 0))), some (.inl 0), none] [.inl r_33] (srl σ [(r_Tokens_due, v_32)]) _
        have kg := (p_34)
        exact wp_zret rfl (by omega) ⟨v_32, (σ r_Tokens_depth), (σ r_Tokens_mayEqual), r_33, rfl, srl_eq (l' := [(r_Tokens_due, v_32), (r_Tokens_depth, σ r_Tokens_depth), (r_Tokens_mayEqual, σ r_Tokens_mayEqual)]) (And.intro rfl trivial) (And.intro rfl (And.intro rfl (And.intro rfl trivial))), (by unfold tG; simp_all <;> omega)⟩
      · refine wp_top h_31 ?_
        refine wp_run 7 (pc' := 119) (ls' := [some (.inr (.inr (r_Tokens, 0))), some (.inl 0), some (.inl 0)]) (st' := [.inl 0, .inr (.inr (r_Tokens, 0))]) (σ' := srl σ []) rfl ?_
        refine wp_put1 rfl rfl rfl rfl (by omega) (wp_wr (l2 := [(r_Tokens_mayEqual, (fun _ => 0))]) rfl ?_)
        show en_wp k_X10_termGoesOn 122 [some (.inr (.inr (r_Tokens, 0))), some (.inl 0), some (.inl 0)] [] (srl σ [(r_Tokens_mayEqual, (fun _ => 0))]) _
        refine wp_run 3 (pc' := 125) (ls' := [some (.inr (.inr (r_Tokens, 0))), some (.inl 0), some (.inl 0)]) (st' := [.inl 4, .inl 0, .inr (.inr (r_Tokens, 0))]) (σ' := srl σ [(r_Tokens_mayEqual, (fun _ => 0))]) rfl ?_
        refine wp_callv rfl rfl rfl rfl (ct_X10_goOn (srl σ [(r_Tokens_mayEqual, (fun _ => 0))]) 0 4 (by omega)) ?_
        rintro _ _ ⟨v_35, r_36, rfl, rfl, p_37⟩
        have p_37 : r_36 = 0 ∧ (v_35 0) = if 0 = 0 then (σ r_Tokens_due) 0 else 4 := p_37
        refine wp_bk (l2 := [(r_Tokens_mayEqual, (fun _ => 0)), (r_Tokens_due, v_35)]) rfl rfl ?_
        show en_wp k_X10_termGoesOn 128 [some (.inr (.inr (r_Tokens, 0))), some (.inl 0), some (.inl 0)] [.inl r_36] (srl σ [(r_Tokens_mayEqual, (fun _ => 0)), (r_Tokens_due, v_35)]) _
        have kg := (p_37)
        exact wp_zret rfl (by omega) ⟨v_35, (σ r_Tokens_depth), (fun _ => 0), r_36, rfl, srl_eq (l' := [(r_Tokens_due, v_35), (r_Tokens_depth, σ r_Tokens_depth), (r_Tokens_mayEqual, (fun _ => 0))]) (And.intro rfl (And.intro rfl trivial)) (And.intro rfl (And.intro rfl (And.intro rfl trivial))), (by unfold tG; simp_all <;> omega)⟩
      · refine wp_top h_31 ?_
        refine wp_run 4 (pc' := 67) (ls' := [some (.inr (.inr (r_Tokens, 0))), some (.inl 0), none]) (st' := [.inl 5, .inl 1, .inr (.inr (r_Tokens, 0))]) (σ' := srl σ []) rfl ?_
        refine wp_callv rfl rfl rfl rfl (ct_X10_goOn σ 1 5 (by omega)) ?_
        rintro _ _ ⟨v_38, r_39, rfl, rfl, p_40⟩
        have p_40 : r_39 = 1 ∧ (v_38 0) = if 1 = 0 then (σ r_Tokens_due) 0 else 5 := p_40
        show en_wp k_X10_termGoesOn 70 [some (.inr (.inr (r_Tokens, 0))), some (.inl 0), none] [.inl r_39] (srl σ [(r_Tokens_due, v_38)]) _
        have kg := (p_40)
        exact wp_zret rfl (by omega) ⟨v_38, (σ r_Tokens_depth), (σ r_Tokens_mayEqual), r_39, rfl, srl_eq (l' := [(r_Tokens_due, v_38), (r_Tokens_depth, σ r_Tokens_depth), (r_Tokens_mayEqual, σ r_Tokens_mayEqual)]) (And.intro rfl trivial) (And.intro rfl (And.intro rfl (And.intro rfl trivial))), (by unfold tG; simp_all <;> omega)⟩
      · refine wp_top h_31 ?_
        refine wp_run 4 (pc' := 67) (ls' := [some (.inr (.inr (r_Tokens, 0))), some (.inl 0), none]) (st' := [.inl 5, .inl 1, .inr (.inr (r_Tokens, 0))]) (σ' := srl σ []) rfl ?_
        refine wp_callv rfl rfl rfl rfl (ct_X10_goOn σ 1 5 (by omega)) ?_
        rintro _ _ ⟨v_41, r_42, rfl, rfl, p_43⟩
        have p_43 : r_42 = 1 ∧ (v_41 0) = if 1 = 0 then (σ r_Tokens_due) 0 else 5 := p_43
        show en_wp k_X10_termGoesOn 70 [some (.inr (.inr (r_Tokens, 0))), some (.inl 0), none] [.inl r_42] (srl σ [(r_Tokens_due, v_41)]) _
        have kg := (p_43)
        exact wp_zret rfl (by omega) ⟨v_41, (σ r_Tokens_depth), (σ r_Tokens_mayEqual), r_42, rfl, srl_eq (l' := [(r_Tokens_due, v_41), (r_Tokens_depth, σ r_Tokens_depth), (r_Tokens_mayEqual, σ r_Tokens_mayEqual)]) (And.intro rfl trivial) (And.intro rfl (And.intro rfl (And.intro rfl trivial))), (by unfold tG; simp_all <;> omega)⟩
      · refine wp_top h_31 ?_
        refine wp_run 2 (pc' := 137) (ls' := [some (.inr (.inr (r_Tokens, 0))), some (.inl 0), none]) (st' := [.inr (.inr (r_Tokens, 0))]) (σ' := srl σ []) rfl ?_
        refine wp_callv rfl rfl rfl rfl (ct_X10_factorBegins σ hk hd0 hle hla hme hal) ?_
        rintro _ _ ⟨v_44, v_45, r_46, rfl, rfl, p_47⟩
        have p_47 : (r_46 = 1 ∧ fB ((σ r_Tokens_due) 0, (σ r_Tokens_depth) 0, (σ r_Tokens_lettersSeen) 0, (σ r_Tokens_lawsSeen) 0, (σ r_Tokens_mayEqual) 0) ((σ r_Tokens_kind) 0) = some ((v_44 0), (v_45 0), (σ r_Tokens_lettersSeen) 0, (σ r_Tokens_lawsSeen) 0, (σ r_Tokens_mayEqual) 0)) ∨ (r_46 = 0 ∧ fB ((σ r_Tokens_due) 0, (σ r_Tokens_depth) 0, (σ r_Tokens_lettersSeen) 0, (σ r_Tokens_lawsSeen) 0, (σ r_Tokens_mayEqual) 0) ((σ r_Tokens_kind) 0) = none) := p_47
        show en_wp k_X10_termGoesOn 140 [some (.inr (.inr (r_Tokens, 0))), some (.inl 0), none] [.inl r_46] (srl σ [(r_Tokens_due, v_44), (r_Tokens_depth, v_45)]) _
        have kf := (p_47)
        exact wp_zret rfl (by omega) ⟨v_44, v_45, (σ r_Tokens_mayEqual), r_46, rfl, srl_eq (l' := [(r_Tokens_due, v_44), (r_Tokens_depth, v_45), (r_Tokens_mayEqual, σ r_Tokens_mayEqual)]) (And.intro rfl (And.intro rfl trivial)) (And.intro rfl (And.intro rfl (And.intro rfl trivial))), (by unfold tG; simp_all <;> omega)⟩
      · refine wp_top h_31 ?_
        refine wp_run 6 (pc' := 78) (ls' := [some (.inr (.inr (r_Tokens, 0))), some (.inl 0), none]) (st' := [.inl ((σ r_Tokens_depth 0) - 1), .inr (.inr (r_Tokens, 0))]) (σ' := srl σ []) rfl ?_
        refine wp_st (x := (81, [some (.inr (.inr (r_Tokens, 0))), some (.inl 0), none], [], sr (srl σ []) r_Tokens_depth (fun _ => ((σ r_Tokens_depth 0) - 1)))) rfl rfl (wp_wr (l2 := [(r_Tokens_depth, (fun _ => ((σ r_Tokens_depth 0) - 1)))]) rfl ?_)
        show en_wp k_X10_termGoesOn 81 [some (.inr (.inr (r_Tokens, 0))), some (.inl 0), none] [] (srl σ [(r_Tokens_depth, (fun _ => ((σ r_Tokens_depth 0) - 1)))]) _
        refine wp_run 3 (pc' := 86) (ls' := [some (.inr (.inr (r_Tokens, 0))), some (.inl 0), none]) (st' := [.inl ((σ r_Tokens_depth 0) - 1), .inr (.inr (r_Tokens, 0))]) (σ' := srl σ [(r_Tokens_depth, (fun _ => ((σ r_Tokens_depth 0) - 1)))]) rfl ?_
        refine wp_if_lt rfl (by omega) (fun h_48 => ?_) (fun h_48 => ?_)
        · show en_wp k_X10_termGoesOn 93 [some (.inr (.inr (r_Tokens, 0))), some (.inl 0), none] [.inr (.inr (r_Tokens, 0))] (srl σ [(r_Tokens_depth, (fun _ => ((σ r_Tokens_depth 0) - 1)))]) _
          refine wp_run 2 (pc' := 96) (ls' := [some (.inr (.inr (r_Tokens, 0))), some (.inl 0), none]) (st' := [.inl 6, .inl 0, .inr (.inr (r_Tokens, 0))]) (σ' := srl σ [(r_Tokens_depth, (fun _ => ((σ r_Tokens_depth 0) - 1)))]) rfl ?_
          refine wp_callv rfl rfl rfl rfl (ct_X10_goOn (srl σ [(r_Tokens_depth, (fun _ => ((σ r_Tokens_depth 0) - 1)))]) 0 6 (by omega)) ?_
          rintro _ _ ⟨v_49, r_50, rfl, rfl, p_51⟩
          have p_51 : r_50 = 0 ∧ (v_49 0) = if 0 = 0 then (σ r_Tokens_due) 0 else 6 := p_51
          refine wp_bk (l2 := [(r_Tokens_depth, (fun _ => ((σ r_Tokens_depth 0) - 1))), (r_Tokens_due, v_49)]) rfl rfl ?_
          show en_wp k_X10_termGoesOn 99 [some (.inr (.inr (r_Tokens, 0))), some (.inl 0), none] [.inl r_50] (srl σ [(r_Tokens_depth, (fun _ => ((σ r_Tokens_depth 0) - 1))), (r_Tokens_due, v_49)]) _
          have kg := (p_51)
          exact wp_zret rfl (by omega) ⟨v_49, (fun _ => ((σ r_Tokens_depth 0) - 1)), (σ r_Tokens_mayEqual), r_50, rfl, srl_eq (l' := [(r_Tokens_due, v_49), (r_Tokens_depth, (fun _ => ((σ r_Tokens_depth 0) - 1))), (r_Tokens_mayEqual, σ r_Tokens_mayEqual)]) (And.intro rfl (And.intro rfl trivial)) (And.intro rfl (And.intro rfl (And.intro rfl trivial))), (by unfold tG; simp_all <;> omega)⟩
        · show en_wp k_X10_termGoesOn 89 [some (.inr (.inr (r_Tokens, 0))), some (.inl 0), none] [.inr (.inr (r_Tokens, 0))] (srl σ [(r_Tokens_depth, (fun _ => ((σ r_Tokens_depth 0) - 1)))]) _
          refine wp_run 3 (pc' := 96) (ls' := [some (.inr (.inr (r_Tokens, 0))), some (.inl 0), none]) (st' := [.inl 6, .inl 1, .inr (.inr (r_Tokens, 0))]) (σ' := srl σ [(r_Tokens_depth, (fun _ => ((σ r_Tokens_depth 0) - 1)))]) rfl ?_
          refine wp_callv rfl rfl rfl rfl (ct_X10_goOn (srl σ [(r_Tokens_depth, (fun _ => ((σ r_Tokens_depth 0) - 1)))]) 1 6 (by omega)) ?_
          rintro _ _ ⟨v_52, r_53, rfl, rfl, p_54⟩
          have p_54 : r_53 = 1 ∧ (v_52 0) = if 1 = 0 then (σ r_Tokens_due) 0 else 6 := p_54
          refine wp_bk (l2 := [(r_Tokens_depth, (fun _ => ((σ r_Tokens_depth 0) - 1))), (r_Tokens_due, v_52)]) rfl rfl ?_
          show en_wp k_X10_termGoesOn 99 [some (.inr (.inr (r_Tokens, 0))), some (.inl 0), none] [.inl r_53] (srl σ [(r_Tokens_depth, (fun _ => ((σ r_Tokens_depth 0) - 1))), (r_Tokens_due, v_52)]) _
          have kg := (p_54)
          exact wp_zret rfl (by omega) ⟨v_52, (fun _ => ((σ r_Tokens_depth 0) - 1)), (σ r_Tokens_mayEqual), r_53, rfl, srl_eq (l' := [(r_Tokens_due, v_52), (r_Tokens_depth, (fun _ => ((σ r_Tokens_depth 0) - 1))), (r_Tokens_mayEqual, σ r_Tokens_mayEqual)]) (And.intro rfl (And.intro rfl trivial)) (And.intro rfl (And.intro rfl (And.intro rfl trivial))), (by unfold tG; simp_all <;> omega)⟩
      · refine wp_sw_out rfl (by omega) (by omega) rfl ?_
        show en_wp k_X10_termGoesOn 136 [some (.inr (.inr (r_Tokens, 0))), some (.inl 0), none] [] (srl σ []) _
        refine wp_run 1 (pc' := 137) (ls' := [some (.inr (.inr (r_Tokens, 0))), some (.inl 0), none]) (st' := [.inr (.inr (r_Tokens, 0))]) (σ' := srl σ []) rfl ?_
        refine wp_callv rfl rfl rfl rfl (ct_X10_factorBegins σ hk hd0 hle hla hme hal) ?_
        rintro _ _ ⟨v_55, v_56, r_57, rfl, rfl, p_58⟩
        have p_58 : (r_57 = 1 ∧ fB ((σ r_Tokens_due) 0, (σ r_Tokens_depth) 0, (σ r_Tokens_lettersSeen) 0, (σ r_Tokens_lawsSeen) 0, (σ r_Tokens_mayEqual) 0) ((σ r_Tokens_kind) 0) = some ((v_55 0), (v_56 0), (σ r_Tokens_lettersSeen) 0, (σ r_Tokens_lawsSeen) 0, (σ r_Tokens_mayEqual) 0)) ∨ (r_57 = 0 ∧ fB ((σ r_Tokens_due) 0, (σ r_Tokens_depth) 0, (σ r_Tokens_lettersSeen) 0, (σ r_Tokens_lawsSeen) 0, (σ r_Tokens_mayEqual) 0) ((σ r_Tokens_kind) 0) = none) := p_58
        show en_wp k_X10_termGoesOn 140 [some (.inr (.inr (r_Tokens, 0))), some (.inl 0), none] [.inl r_57] (srl σ [(r_Tokens_due, v_55), (r_Tokens_depth, v_56)]) _
        have kf := (p_58)
        exact wp_zret rfl (by omega) ⟨v_55, v_56, (σ r_Tokens_mayEqual), r_57, rfl, srl_eq (l' := [(r_Tokens_due, v_55), (r_Tokens_depth, v_56), (r_Tokens_mayEqual, σ r_Tokens_mayEqual)]) (And.intro rfl (And.intro rfl trivial)) (And.intro rfl (And.intro rfl (And.intro rfl trivial))), (by unfold tG; simp_all <;> omega)⟩
    · show en_wp k_X10_termGoesOn 14 [some (.inr (.inr (r_Tokens, 0))), none, none] [] (srl σ []) _
      refine wp_run 5 (pc' := 24) (ls' := [some (.inr (.inr (r_Tokens, 0))), some (.inl 1), none]) (st' := [.inl (σ r_Tokens_kind 0)]) (σ' := srl σ []) rfl ?_
      have h_59 : (σ r_Tokens_kind 0) = 7 ∨ (σ r_Tokens_kind 0) = 8 ∨ (σ r_Tokens_kind 0) = 9 ∨ (σ r_Tokens_kind 0) = 10 ∨ (σ r_Tokens_kind 0) = 11 ∨ (σ r_Tokens_kind 0) = 12 ∨ (¬ (σ r_Tokens_kind 0) = 7 ∧ ¬ (σ r_Tokens_kind 0) = 8 ∧ ¬ (σ r_Tokens_kind 0) = 9 ∧ ¬ (σ r_Tokens_kind 0) = 10 ∧ ¬ (σ r_Tokens_kind 0) = 11 ∧ ¬ (σ r_Tokens_kind 0) = 12) := by omega
      rcases h_59 with h_59 | h_59 | h_59 | h_59 | h_59 | h_59 | h_59
      · refine wp_top h_59 ?_
        refine wp_run 4 (pc' := 132) (ls' := [some (.inr (.inr (r_Tokens, 0))), some (.inl 1), none]) (st' := [.inl 0, .inl 1, .inr (.inr (r_Tokens, 0))]) (σ' := srl σ []) rfl ?_
        refine wp_callv rfl rfl rfl rfl (ct_X10_goOn σ 1 0 (by omega)) ?_
        rintro _ _ ⟨v_60, r_61, rfl, rfl, p_62⟩
        have p_62 : r_61 = 1 ∧ (v_60 0) = if 1 = 0 then (σ r_Tokens_due) 0 else 0 := p_62
        show en_wp k_X10_termGoesOn 135 [some (.inr (.inr (r_Tokens, 0))), some (.inl 1), none] [.inl r_61] (srl σ [(r_Tokens_due, v_60)]) _
        have kg := (p_62)
        exact wp_zret rfl (by omega) ⟨v_60, (σ r_Tokens_depth), (σ r_Tokens_mayEqual), r_61, rfl, srl_eq (l' := [(r_Tokens_due, v_60), (r_Tokens_depth, σ r_Tokens_depth), (r_Tokens_mayEqual, σ r_Tokens_mayEqual)]) (And.intro rfl trivial) (And.intro rfl (And.intro rfl (And.intro rfl trivial))), (by unfold tG; simp_all <;> omega)⟩
      · refine wp_top h_59 ?_
        refine wp_run 5 (pc' := 108) (ls' := [some (.inr (.inr (r_Tokens, 0))), some (.inl 1), none]) (st' := [.inl (σ r_Tokens_mayEqual 0)]) (σ' := srl σ []) rfl ?_
        refine wp_if_eq rfl (by omega) (fun h_63 => ?_) (fun h_63 => ?_)
        · show en_wp k_X10_termGoesOn 115 [some (.inr (.inr (r_Tokens, 0))), some (.inl 1), none] [] (srl σ []) _
          refine wp_run 4 (pc' := 119) (ls' := [some (.inr (.inr (r_Tokens, 0))), some (.inl 1), some (.inl 0)]) (st' := [.inl 0, .inr (.inr (r_Tokens, 0))]) (σ' := srl σ []) rfl ?_
          refine wp_put1 rfl rfl rfl rfl (by omega) (wp_wr (l2 := [(r_Tokens_mayEqual, (fun _ => 0))]) rfl ?_)
          show en_wp k_X10_termGoesOn 122 [some (.inr (.inr (r_Tokens, 0))), some (.inl 1), some (.inl 0)] [] (srl σ [(r_Tokens_mayEqual, (fun _ => 0))]) _
          refine wp_run 3 (pc' := 125) (ls' := [some (.inr (.inr (r_Tokens, 0))), some (.inl 1), some (.inl 0)]) (st' := [.inl 4, .inl 0, .inr (.inr (r_Tokens, 0))]) (σ' := srl σ [(r_Tokens_mayEqual, (fun _ => 0))]) rfl ?_
          refine wp_callv rfl rfl rfl rfl (ct_X10_goOn (srl σ [(r_Tokens_mayEqual, (fun _ => 0))]) 0 4 (by omega)) ?_
          rintro _ _ ⟨v_64, r_65, rfl, rfl, p_66⟩
          have p_66 : r_65 = 0 ∧ (v_64 0) = if 0 = 0 then (σ r_Tokens_due) 0 else 4 := p_66
          refine wp_bk (l2 := [(r_Tokens_mayEqual, (fun _ => 0)), (r_Tokens_due, v_64)]) rfl rfl ?_
          show en_wp k_X10_termGoesOn 128 [some (.inr (.inr (r_Tokens, 0))), some (.inl 1), some (.inl 0)] [.inl r_65] (srl σ [(r_Tokens_mayEqual, (fun _ => 0)), (r_Tokens_due, v_64)]) _
          have kg := (p_66)
          exact wp_zret rfl (by omega) ⟨v_64, (σ r_Tokens_depth), (fun _ => 0), r_65, rfl, srl_eq (l' := [(r_Tokens_due, v_64), (r_Tokens_depth, σ r_Tokens_depth), (r_Tokens_mayEqual, (fun _ => 0))]) (And.intro rfl (And.intro rfl trivial)) (And.intro rfl (And.intro rfl (And.intro rfl trivial))), (by unfold tG; simp_all <;> omega)⟩
        · show en_wp k_X10_termGoesOn 111 [some (.inr (.inr (r_Tokens, 0))), some (.inl 1), none] [] (srl σ []) _
          refine wp_run 5 (pc' := 119) (ls' := [some (.inr (.inr (r_Tokens, 0))), some (.inl 1), some (.inl 1)]) (st' := [.inl 0, .inr (.inr (r_Tokens, 0))]) (σ' := srl σ []) rfl ?_
          refine wp_put1 rfl rfl rfl rfl (by omega) (wp_wr (l2 := [(r_Tokens_mayEqual, (fun _ => 0))]) rfl ?_)
          show en_wp k_X10_termGoesOn 122 [some (.inr (.inr (r_Tokens, 0))), some (.inl 1), some (.inl 1)] [] (srl σ [(r_Tokens_mayEqual, (fun _ => 0))]) _
          refine wp_run 3 (pc' := 125) (ls' := [some (.inr (.inr (r_Tokens, 0))), some (.inl 1), some (.inl 1)]) (st' := [.inl 4, .inl 1, .inr (.inr (r_Tokens, 0))]) (σ' := srl σ [(r_Tokens_mayEqual, (fun _ => 0))]) rfl ?_
          refine wp_callv rfl rfl rfl rfl (ct_X10_goOn (srl σ [(r_Tokens_mayEqual, (fun _ => 0))]) 1 4 (by omega)) ?_
          rintro _ _ ⟨v_67, r_68, rfl, rfl, p_69⟩
          have p_69 : r_68 = 1 ∧ (v_67 0) = if 1 = 0 then (σ r_Tokens_due) 0 else 4 := p_69
          refine wp_bk (l2 := [(r_Tokens_mayEqual, (fun _ => 0)), (r_Tokens_due, v_67)]) rfl rfl ?_
          show en_wp k_X10_termGoesOn 128 [some (.inr (.inr (r_Tokens, 0))), some (.inl 1), some (.inl 1)] [.inl r_68] (srl σ [(r_Tokens_mayEqual, (fun _ => 0)), (r_Tokens_due, v_67)]) _
          have kg := (p_69)
          exact wp_zret rfl (by omega) ⟨v_67, (σ r_Tokens_depth), (fun _ => 0), r_68, rfl, srl_eq (l' := [(r_Tokens_due, v_67), (r_Tokens_depth, σ r_Tokens_depth), (r_Tokens_mayEqual, (fun _ => 0))]) (And.intro rfl (And.intro rfl trivial)) (And.intro rfl (And.intro rfl (And.intro rfl trivial))), (by unfold tG; simp_all <;> omega)⟩
      · refine wp_top h_59 ?_
        refine wp_run 4 (pc' := 67) (ls' := [some (.inr (.inr (r_Tokens, 0))), some (.inl 1), none]) (st' := [.inl 5, .inl 1, .inr (.inr (r_Tokens, 0))]) (σ' := srl σ []) rfl ?_
        refine wp_callv rfl rfl rfl rfl (ct_X10_goOn σ 1 5 (by omega)) ?_
        rintro _ _ ⟨v_70, r_71, rfl, rfl, p_72⟩
        have p_72 : r_71 = 1 ∧ (v_70 0) = if 1 = 0 then (σ r_Tokens_due) 0 else 5 := p_72
        show en_wp k_X10_termGoesOn 70 [some (.inr (.inr (r_Tokens, 0))), some (.inl 1), none] [.inl r_71] (srl σ [(r_Tokens_due, v_70)]) _
        have kg := (p_72)
        exact wp_zret rfl (by omega) ⟨v_70, (σ r_Tokens_depth), (σ r_Tokens_mayEqual), r_71, rfl, srl_eq (l' := [(r_Tokens_due, v_70), (r_Tokens_depth, σ r_Tokens_depth), (r_Tokens_mayEqual, σ r_Tokens_mayEqual)]) (And.intro rfl trivial) (And.intro rfl (And.intro rfl (And.intro rfl trivial))), (by unfold tG; simp_all <;> omega)⟩
      · refine wp_top h_59 ?_
        refine wp_run 4 (pc' := 67) (ls' := [some (.inr (.inr (r_Tokens, 0))), some (.inl 1), none]) (st' := [.inl 5, .inl 1, .inr (.inr (r_Tokens, 0))]) (σ' := srl σ []) rfl ?_
        refine wp_callv rfl rfl rfl rfl (ct_X10_goOn σ 1 5 (by omega)) ?_
        rintro _ _ ⟨v_73, r_74, rfl, rfl, p_75⟩
        have p_75 : r_74 = 1 ∧ (v_73 0) = if 1 = 0 then (σ r_Tokens_due) 0 else 5 := p_75
        show en_wp k_X10_termGoesOn 70 [some (.inr (.inr (r_Tokens, 0))), some (.inl 1), none] [.inl r_74] (srl σ [(r_Tokens_due, v_73)]) _
        have kg := (p_75)
        exact wp_zret rfl (by omega) ⟨v_73, (σ r_Tokens_depth), (σ r_Tokens_mayEqual), r_74, rfl, srl_eq (l' := [(r_Tokens_due, v_73), (r_Tokens_depth, σ r_Tokens_depth), (r_Tokens_mayEqual, σ r_Tokens_mayEqual)]) (And.intro rfl trivial) (And.intro rfl (And.intro rfl (And.intro rfl trivial))), (by unfold tG; simp_all <;> omega)⟩
      · refine wp_top h_59 ?_
        refine wp_run 2 (pc' := 137) (ls' := [some (.inr (.inr (r_Tokens, 0))), some (.inl 1), none]) (st' := [.inr (.inr (r_Tokens, 0))]) (σ' := srl σ []) rfl ?_
        refine wp_callv rfl rfl rfl rfl (ct_X10_factorBegins σ hk hd0 hle hla hme hal) ?_
        rintro _ _ ⟨v_76, v_77, r_78, rfl, rfl, p_79⟩
        have p_79 : (r_78 = 1 ∧ fB ((σ r_Tokens_due) 0, (σ r_Tokens_depth) 0, (σ r_Tokens_lettersSeen) 0, (σ r_Tokens_lawsSeen) 0, (σ r_Tokens_mayEqual) 0) ((σ r_Tokens_kind) 0) = some ((v_76 0), (v_77 0), (σ r_Tokens_lettersSeen) 0, (σ r_Tokens_lawsSeen) 0, (σ r_Tokens_mayEqual) 0)) ∨ (r_78 = 0 ∧ fB ((σ r_Tokens_due) 0, (σ r_Tokens_depth) 0, (σ r_Tokens_lettersSeen) 0, (σ r_Tokens_lawsSeen) 0, (σ r_Tokens_mayEqual) 0) ((σ r_Tokens_kind) 0) = none) := p_79
        show en_wp k_X10_termGoesOn 140 [some (.inr (.inr (r_Tokens, 0))), some (.inl 1), none] [.inl r_78] (srl σ [(r_Tokens_due, v_76), (r_Tokens_depth, v_77)]) _
        have kf := (p_79)
        exact wp_zret rfl (by omega) ⟨v_76, v_77, (σ r_Tokens_mayEqual), r_78, rfl, srl_eq (l' := [(r_Tokens_due, v_76), (r_Tokens_depth, v_77), (r_Tokens_mayEqual, σ r_Tokens_mayEqual)]) (And.intro rfl (And.intro rfl trivial)) (And.intro rfl (And.intro rfl (And.intro rfl trivial))), (by unfold tG; simp_all <;> omega)⟩
      · refine wp_top h_59 ?_
        refine wp_run 6 (pc' := 78) (ls' := [some (.inr (.inr (r_Tokens, 0))), some (.inl 1), none]) (st' := [.inl ((σ r_Tokens_depth 0) - 1), .inr (.inr (r_Tokens, 0))]) (σ' := srl σ []) rfl ?_
        refine wp_st (x := (81, [some (.inr (.inr (r_Tokens, 0))), some (.inl 1), none], [], sr (srl σ []) r_Tokens_depth (fun _ => ((σ r_Tokens_depth 0) - 1)))) rfl rfl (wp_wr (l2 := [(r_Tokens_depth, (fun _ => ((σ r_Tokens_depth 0) - 1)))]) rfl ?_)
        show en_wp k_X10_termGoesOn 81 [some (.inr (.inr (r_Tokens, 0))), some (.inl 1), none] [] (srl σ [(r_Tokens_depth, (fun _ => ((σ r_Tokens_depth 0) - 1)))]) _
        refine wp_run 3 (pc' := 86) (ls' := [some (.inr (.inr (r_Tokens, 0))), some (.inl 1), none]) (st' := [.inl ((σ r_Tokens_depth 0) - 1), .inr (.inr (r_Tokens, 0))]) (σ' := srl σ [(r_Tokens_depth, (fun _ => ((σ r_Tokens_depth 0) - 1)))]) rfl ?_
        refine wp_if_lt rfl (by omega) (fun h_80 => ?_) (fun h_80 => ?_)
        · show en_wp k_X10_termGoesOn 93 [some (.inr (.inr (r_Tokens, 0))), some (.inl 1), none] [.inr (.inr (r_Tokens, 0))] (srl σ [(r_Tokens_depth, (fun _ => ((σ r_Tokens_depth 0) - 1)))]) _
          refine wp_run 2 (pc' := 96) (ls' := [some (.inr (.inr (r_Tokens, 0))), some (.inl 1), none]) (st' := [.inl 6, .inl 0, .inr (.inr (r_Tokens, 0))]) (σ' := srl σ [(r_Tokens_depth, (fun _ => ((σ r_Tokens_depth 0) - 1)))]) rfl ?_
          refine wp_callv rfl rfl rfl rfl (ct_X10_goOn (srl σ [(r_Tokens_depth, (fun _ => ((σ r_Tokens_depth 0) - 1)))]) 0 6 (by omega)) ?_
          rintro _ _ ⟨v_81, r_82, rfl, rfl, p_83⟩
          have p_83 : r_82 = 0 ∧ (v_81 0) = if 0 = 0 then (σ r_Tokens_due) 0 else 6 := p_83
          refine wp_bk (l2 := [(r_Tokens_depth, (fun _ => ((σ r_Tokens_depth 0) - 1))), (r_Tokens_due, v_81)]) rfl rfl ?_
          show en_wp k_X10_termGoesOn 99 [some (.inr (.inr (r_Tokens, 0))), some (.inl 1), none] [.inl r_82] (srl σ [(r_Tokens_depth, (fun _ => ((σ r_Tokens_depth 0) - 1))), (r_Tokens_due, v_81)]) _
          have kg := (p_83)
          exact wp_zret rfl (by omega) ⟨v_81, (fun _ => ((σ r_Tokens_depth 0) - 1)), (σ r_Tokens_mayEqual), r_82, rfl, srl_eq (l' := [(r_Tokens_due, v_81), (r_Tokens_depth, (fun _ => ((σ r_Tokens_depth 0) - 1))), (r_Tokens_mayEqual, σ r_Tokens_mayEqual)]) (And.intro rfl (And.intro rfl trivial)) (And.intro rfl (And.intro rfl (And.intro rfl trivial))), (by unfold tG; simp_all <;> omega)⟩
        · show en_wp k_X10_termGoesOn 89 [some (.inr (.inr (r_Tokens, 0))), some (.inl 1), none] [.inr (.inr (r_Tokens, 0))] (srl σ [(r_Tokens_depth, (fun _ => ((σ r_Tokens_depth 0) - 1)))]) _
          refine wp_run 3 (pc' := 96) (ls' := [some (.inr (.inr (r_Tokens, 0))), some (.inl 1), none]) (st' := [.inl 6, .inl 1, .inr (.inr (r_Tokens, 0))]) (σ' := srl σ [(r_Tokens_depth, (fun _ => ((σ r_Tokens_depth 0) - 1)))]) rfl ?_
          refine wp_callv rfl rfl rfl rfl (ct_X10_goOn (srl σ [(r_Tokens_depth, (fun _ => ((σ r_Tokens_depth 0) - 1)))]) 1 6 (by omega)) ?_
          rintro _ _ ⟨v_84, r_85, rfl, rfl, p_86⟩
          have p_86 : r_85 = 1 ∧ (v_84 0) = if 1 = 0 then (σ r_Tokens_due) 0 else 6 := p_86
          refine wp_bk (l2 := [(r_Tokens_depth, (fun _ => ((σ r_Tokens_depth 0) - 1))), (r_Tokens_due, v_84)]) rfl rfl ?_
          show en_wp k_X10_termGoesOn 99 [some (.inr (.inr (r_Tokens, 0))), some (.inl 1), none] [.inl r_85] (srl σ [(r_Tokens_depth, (fun _ => ((σ r_Tokens_depth 0) - 1))), (r_Tokens_due, v_84)]) _
          have kg := (p_86)
          exact wp_zret rfl (by omega) ⟨v_84, (fun _ => ((σ r_Tokens_depth 0) - 1)), (σ r_Tokens_mayEqual), r_85, rfl, srl_eq (l' := [(r_Tokens_due, v_84), (r_Tokens_depth, (fun _ => ((σ r_Tokens_depth 0) - 1))), (r_Tokens_mayEqual, σ r_Tokens_mayEqual)]) (And.intro rfl (And.intro rfl trivial)) (And.intro rfl (And.intro rfl (And.intro rfl trivial))), (by unfold tG; simp_all <;> omega)⟩
      · refine wp_sw_out rfl (by omega) (by omega) rfl ?_
        show en_wp k_X10_termGoesOn 136 [some (.inr (.inr (r_Tokens, 0))), some (.inl 1), none] [] (srl σ []) _
        refine wp_run 1 (pc' := 137) (ls' := [some (.inr (.inr (r_Tokens, 0))), some (.inl 1), none]) (st' := [.inr (.inr (r_Tokens, 0))]) (σ' := srl σ []) rfl ?_
        refine wp_callv rfl rfl rfl rfl (ct_X10_factorBegins σ hk hd0 hle hla hme hal) ?_
        rintro _ _ ⟨v_87, v_88, r_89, rfl, rfl, p_90⟩
        have p_90 : (r_89 = 1 ∧ fB ((σ r_Tokens_due) 0, (σ r_Tokens_depth) 0, (σ r_Tokens_lettersSeen) 0, (σ r_Tokens_lawsSeen) 0, (σ r_Tokens_mayEqual) 0) ((σ r_Tokens_kind) 0) = some ((v_87 0), (v_88 0), (σ r_Tokens_lettersSeen) 0, (σ r_Tokens_lawsSeen) 0, (σ r_Tokens_mayEqual) 0)) ∨ (r_89 = 0 ∧ fB ((σ r_Tokens_due) 0, (σ r_Tokens_depth) 0, (σ r_Tokens_lettersSeen) 0, (σ r_Tokens_lawsSeen) 0, (σ r_Tokens_mayEqual) 0) ((σ r_Tokens_kind) 0) = none) := p_90
        show en_wp k_X10_termGoesOn 140 [some (.inr (.inr (r_Tokens, 0))), some (.inl 1), none] [.inl r_89] (srl σ [(r_Tokens_due, v_87), (r_Tokens_depth, v_88)]) _
        have kf := (p_90)
        exact wp_zret rfl (by omega) ⟨v_87, v_88, (σ r_Tokens_mayEqual), r_89, rfl, srl_eq (l' := [(r_Tokens_due, v_87), (r_Tokens_depth, v_88), (r_Tokens_mayEqual, σ r_Tokens_mayEqual)]) (And.intro rfl (And.intro rfl trivial)) (And.intro rfl (And.intro rfl (And.intro rfl trivial))), (by unfold tG; simp_all <;> omega)⟩
theorem ct_X10_goesOn (σ : en_m) (hk : 0 ≤ (σ r_Tokens_kind) 0 ∧ (σ r_Tokens_kind) 0 ≤ 12) (hd0 : 0 ≤ (σ r_Tokens_depth) 0 ∧ (σ r_Tokens_depth) 0 ≤ 10) (hle : 0 ≤ (σ r_Tokens_lettersSeen) 0 ∧ (σ r_Tokens_lettersSeen) 0 ≤ 10) (hla : 0 ≤ (σ r_Tokens_lawsSeen) 0 ∧ (σ r_Tokens_lawsSeen) 0 ≤ 10) (hme : (σ r_Tokens_mayEqual) 0 = 0 ∨ (σ r_Tokens_mayEqual) 0 = 1) (hal : (σ r_Tokens_sumAlone) 0 = 0 ∨ (σ r_Tokens_sumAlone) 0 = 1) (hdu : 0 ≤ (σ r_Tokens_due) 0 ∧ (σ r_Tokens_due) 0 ≤ 6) : en_ct z_X10_goesOn [.inr (.inr (r_Tokens, 0))] σ (fun r σ' => ∃ (v_Tokens_due : Int → Int), ∃ (v_Tokens_depth : Int → Int), ∃ (v_Tokens_lettersSeen : Int → Int), ∃ (v_Tokens_lawsSeen : Int → Int), ∃ (v_Tokens_mayEqual : Int → Int), ∃ (rr : Int), r = some (.inl rr) ∧ σ' = srl σ [(r_Tokens_due, v_Tokens_due), (r_Tokens_depth, v_Tokens_depth), (r_Tokens_lettersSeen, v_Tokens_lettersSeen), (r_Tokens_lawsSeen, v_Tokens_lawsSeen), (r_Tokens_mayEqual, v_Tokens_mayEqual)] ∧ ((rr = 1 ∧ gO ((σ r_Tokens_sumAlone) 0) ((σ r_Tokens_due) 0, (σ r_Tokens_depth) 0, (σ r_Tokens_lettersSeen) 0, (σ r_Tokens_lawsSeen) 0, (σ r_Tokens_mayEqual) 0) ((σ r_Tokens_kind) 0) = some ((v_Tokens_due 0), (v_Tokens_depth 0), (v_Tokens_lettersSeen 0), (v_Tokens_lawsSeen 0), (v_Tokens_mayEqual 0))) ∨ (rr = 0 ∧ gO ((σ r_Tokens_sumAlone) 0) ((σ r_Tokens_due) 0, (σ r_Tokens_depth) 0, (σ r_Tokens_lettersSeen) 0, (σ r_Tokens_lawsSeen) 0, (σ r_Tokens_mayEqual) 0) ((σ r_Tokens_kind) 0) = none))) := by
  show en_wp k_X10_goesOn 0 [some (.inr (.inr (r_Tokens, 0)))] [] (srl σ []) (fun r σ' => ∃ (v_Tokens_due : Int → Int), ∃ (v_Tokens_depth : Int → Int), ∃ (v_Tokens_lettersSeen : Int → Int), ∃ (v_Tokens_lawsSeen : Int → Int), ∃ (v_Tokens_mayEqual : Int → Int), ∃ (rr : Int), r = some (.inl rr) ∧ σ' = srl σ [(r_Tokens_due, v_Tokens_due), (r_Tokens_depth, v_Tokens_depth), (r_Tokens_lettersSeen, v_Tokens_lettersSeen), (r_Tokens_lawsSeen, v_Tokens_lawsSeen), (r_Tokens_mayEqual, v_Tokens_mayEqual)] ∧ ((rr = 1 ∧ gO ((σ r_Tokens_sumAlone) 0) ((σ r_Tokens_due) 0, (σ r_Tokens_depth) 0, (σ r_Tokens_lettersSeen) 0, (σ r_Tokens_lawsSeen) 0, (σ r_Tokens_mayEqual) 0) ((σ r_Tokens_kind) 0) = some ((v_Tokens_due 0), (v_Tokens_depth 0), (v_Tokens_lettersSeen 0), (v_Tokens_lawsSeen 0), (v_Tokens_mayEqual 0))) ∨ (rr = 0 ∧ gO ((σ r_Tokens_sumAlone) 0) ((σ r_Tokens_due) 0, (σ r_Tokens_depth) 0, (σ r_Tokens_lettersSeen) 0, (σ r_Tokens_lawsSeen) 0, (σ r_Tokens_mayEqual) 0) ((σ r_Tokens_kind) 0) = none)))
  refine wp_run 2 (pc' := 4) (ls' := [some (.inr (.inr (r_Tokens, 0)))]) (st' := [.inl (σ r_Tokens_due 0)]) (σ' := srl σ []) rfl ?_
  have h_1 : (σ r_Tokens_due 0) = 0 ∨ (σ r_Tokens_due 0) = 1 ∨ (σ r_Tokens_due 0) = 2 ∨ (σ r_Tokens_due 0) = 3 ∨ (σ r_Tokens_due 0) = 4 ∨ (σ r_Tokens_due 0) = 5 ∨ (¬ (σ r_Tokens_due 0) = 0 ∧ ¬ (σ r_Tokens_due 0) = 1 ∧ ¬ (σ r_Tokens_due 0) = 2 ∧ ¬ (σ r_Tokens_due 0) = 3 ∧ ¬ (σ r_Tokens_due 0) = 4 ∧ ¬ (σ r_Tokens_due 0) = 5) := by omega
  rcases h_1 with h_1 | h_1 | h_1 | h_1 | h_1 | h_1 | h_1
  · refine wp_top h_1 ?_
    refine wp_run 2 (pc' := 45) (ls' := [some (.inr (.inr (r_Tokens, 0)))]) (st' := [.inr (.inr (r_Tokens, 0))]) (σ' := srl σ []) rfl ?_
    refine wp_callv rfl rfl rfl rfl (ct_X10_tellBegins σ hk hd0 hle hla hme hal) ?_
    rintro _ _ ⟨v_2, v_3, v_4, v_5, r_6, rfl, rfl, p_7⟩
    have p_7 : (r_6 = 1 ∧ tB ((σ r_Tokens_due) 0, (σ r_Tokens_depth) 0, (σ r_Tokens_lettersSeen) 0, (σ r_Tokens_lawsSeen) 0, (σ r_Tokens_mayEqual) 0) ((σ r_Tokens_kind) 0) = some ((v_2 0), (σ r_Tokens_depth) 0, (v_3 0), (v_4 0), (v_5 0))) ∨ (r_6 = 0 ∧ tB ((σ r_Tokens_due) 0, (σ r_Tokens_depth) 0, (σ r_Tokens_lettersSeen) 0, (σ r_Tokens_lawsSeen) 0, (σ r_Tokens_mayEqual) 0) ((σ r_Tokens_kind) 0) = none) := p_7
    show en_wp k_X10_goesOn 48 [some (.inr (.inr (r_Tokens, 0)))] [.inl r_6] (srl σ [(r_Tokens_due, v_2), (r_Tokens_lettersSeen, v_3), (r_Tokens_lawsSeen, v_4), (r_Tokens_mayEqual, v_5)]) _
    have kf := (p_7)
    exact wp_zret rfl (by omega) ⟨v_2, (σ r_Tokens_depth), v_3, v_4, v_5, r_6, rfl, srl_eq (l' := [(r_Tokens_due, v_2), (r_Tokens_depth, σ r_Tokens_depth), (r_Tokens_lettersSeen, v_3), (r_Tokens_lawsSeen, v_4), (r_Tokens_mayEqual, v_5)]) (And.intro rfl (And.intro rfl (And.intro rfl (And.intro rfl trivial)))) (And.intro rfl (And.intro rfl (And.intro rfl (And.intro rfl (And.intro rfl trivial))))), (by unfold gO; simp_all)⟩
  · refine wp_top h_1 ?_
    refine wp_run 5 (pc' := 56) (ls' := [some (.inr (.inr (r_Tokens, 0)))]) (st' := [.inl 6, .inl (σ r_Tokens_kind 0), .inr (.inr (r_Tokens, 0))]) (σ' := srl σ []) rfl ?_
    refine wp_ic_ne rfl (by omega) (by omega) (fun h_8 => ?_) (fun h_8 => ?_)
    · show en_wp k_X10_goesOn 63 [some (.inr (.inr (r_Tokens, 0)))] [.inr (.inr (r_Tokens, 0))] (srl σ []) _
      refine wp_run 2 (pc' := 65) (ls' := [some (.inr (.inr (r_Tokens, 0)))]) (st' := [.inl 3, .inl 0, .inr (.inr (r_Tokens, 0))]) (σ' := srl σ []) rfl ?_
      refine wp_callv rfl rfl rfl rfl (ct_X10_goOn σ 0 3 (by omega)) ?_
      rintro _ _ ⟨v_9, r_10, rfl, rfl, p_11⟩
      have p_11 : r_10 = 0 ∧ (v_9 0) = if 0 = 0 then (σ r_Tokens_due) 0 else 3 := p_11
      show en_wp k_X10_goesOn 68 [some (.inr (.inr (r_Tokens, 0)))] [.inl r_10] (srl σ [(r_Tokens_due, v_9)]) _
      have kg := (p_11)
      exact wp_zret rfl (by omega) ⟨v_9, (σ r_Tokens_depth), (σ r_Tokens_lettersSeen), (σ r_Tokens_lawsSeen), (σ r_Tokens_mayEqual), r_10, rfl, srl_eq (l' := [(r_Tokens_due, v_9), (r_Tokens_depth, σ r_Tokens_depth), (r_Tokens_lettersSeen, σ r_Tokens_lettersSeen), (r_Tokens_lawsSeen, σ r_Tokens_lawsSeen), (r_Tokens_mayEqual, σ r_Tokens_mayEqual)]) (And.intro rfl trivial) (And.intro rfl (And.intro rfl (And.intro rfl (And.intro rfl (And.intro rfl trivial))))), (by unfold gO; simp_all)⟩
    · show en_wp k_X10_goesOn 59 [some (.inr (.inr (r_Tokens, 0)))] [.inr (.inr (r_Tokens, 0))] (srl σ []) _
      refine wp_run 3 (pc' := 65) (ls' := [some (.inr (.inr (r_Tokens, 0)))]) (st' := [.inl 3, .inl 1, .inr (.inr (r_Tokens, 0))]) (σ' := srl σ []) rfl ?_
      refine wp_callv rfl rfl rfl rfl (ct_X10_goOn σ 1 3 (by omega)) ?_
      rintro _ _ ⟨v_12, r_13, rfl, rfl, p_14⟩
      have p_14 : r_13 = 1 ∧ (v_12 0) = if 1 = 0 then (σ r_Tokens_due) 0 else 3 := p_14
      show en_wp k_X10_goesOn 68 [some (.inr (.inr (r_Tokens, 0)))] [.inl r_13] (srl σ [(r_Tokens_due, v_12)]) _
      have kg := (p_14)
      exact wp_zret rfl (by omega) ⟨v_12, (σ r_Tokens_depth), (σ r_Tokens_lettersSeen), (σ r_Tokens_lawsSeen), (σ r_Tokens_mayEqual), r_13, rfl, srl_eq (l' := [(r_Tokens_due, v_12), (r_Tokens_depth, σ r_Tokens_depth), (r_Tokens_lettersSeen, σ r_Tokens_lettersSeen), (r_Tokens_lawsSeen, σ r_Tokens_lawsSeen), (r_Tokens_mayEqual, σ r_Tokens_mayEqual)]) (And.intro rfl trivial) (And.intro rfl (And.intro rfl (And.intro rfl (And.intro rfl (And.intro rfl trivial))))), (by unfold gO; simp_all)⟩
  · refine wp_top h_1 ?_
    refine wp_run 5 (pc' := 75) (ls' := [some (.inr (.inr (r_Tokens, 0)))]) (st' := [.inl 5, .inl (σ r_Tokens_kind 0), .inr (.inr (r_Tokens, 0))]) (σ' := srl σ []) rfl ?_
    refine wp_ic_ne rfl (by omega) (by omega) (fun h_15 => ?_) (fun h_15 => ?_)
    · show en_wp k_X10_goesOn 82 [some (.inr (.inr (r_Tokens, 0)))] [.inr (.inr (r_Tokens, 0))] (srl σ []) _
      refine wp_run 2 (pc' := 84) (ls' := [some (.inr (.inr (r_Tokens, 0)))]) (st' := [.inl 3, .inl 0, .inr (.inr (r_Tokens, 0))]) (σ' := srl σ []) rfl ?_
      refine wp_callv rfl rfl rfl rfl (ct_X10_goOn σ 0 3 (by omega)) ?_
      rintro _ _ ⟨v_16, r_17, rfl, rfl, p_18⟩
      have p_18 : r_17 = 0 ∧ (v_16 0) = if 0 = 0 then (σ r_Tokens_due) 0 else 3 := p_18
      show en_wp k_X10_goesOn 87 [some (.inr (.inr (r_Tokens, 0)))] [.inl r_17] (srl σ [(r_Tokens_due, v_16)]) _
      have kg := (p_18)
      exact wp_zret rfl (by omega) ⟨v_16, (σ r_Tokens_depth), (σ r_Tokens_lettersSeen), (σ r_Tokens_lawsSeen), (σ r_Tokens_mayEqual), r_17, rfl, srl_eq (l' := [(r_Tokens_due, v_16), (r_Tokens_depth, σ r_Tokens_depth), (r_Tokens_lettersSeen, σ r_Tokens_lettersSeen), (r_Tokens_lawsSeen, σ r_Tokens_lawsSeen), (r_Tokens_mayEqual, σ r_Tokens_mayEqual)]) (And.intro rfl trivial) (And.intro rfl (And.intro rfl (And.intro rfl (And.intro rfl (And.intro rfl trivial))))), (by unfold gO; simp_all)⟩
    · show en_wp k_X10_goesOn 78 [some (.inr (.inr (r_Tokens, 0)))] [.inr (.inr (r_Tokens, 0))] (srl σ []) _
      refine wp_run 3 (pc' := 84) (ls' := [some (.inr (.inr (r_Tokens, 0)))]) (st' := [.inl 3, .inl 1, .inr (.inr (r_Tokens, 0))]) (σ' := srl σ []) rfl ?_
      refine wp_callv rfl rfl rfl rfl (ct_X10_goOn σ 1 3 (by omega)) ?_
      rintro _ _ ⟨v_19, r_20, rfl, rfl, p_21⟩
      have p_21 : r_20 = 1 ∧ (v_19 0) = if 1 = 0 then (σ r_Tokens_due) 0 else 3 := p_21
      show en_wp k_X10_goesOn 87 [some (.inr (.inr (r_Tokens, 0)))] [.inl r_20] (srl σ [(r_Tokens_due, v_19)]) _
      have kg := (p_21)
      exact wp_zret rfl (by omega) ⟨v_19, (σ r_Tokens_depth), (σ r_Tokens_lettersSeen), (σ r_Tokens_lawsSeen), (σ r_Tokens_mayEqual), r_20, rfl, srl_eq (l' := [(r_Tokens_due, v_19), (r_Tokens_depth, σ r_Tokens_depth), (r_Tokens_lettersSeen, σ r_Tokens_lettersSeen), (r_Tokens_lawsSeen, σ r_Tokens_lawsSeen), (r_Tokens_mayEqual, σ r_Tokens_mayEqual)]) (And.intro rfl trivial) (And.intro rfl (And.intro rfl (And.intro rfl (And.intro rfl (And.intro rfl trivial))))), (by unfold gO; simp_all)⟩
  · refine wp_top h_1 ?_
    refine wp_run 5 (pc' := 95) (ls' := [some (.inr (.inr (r_Tokens, 0)))]) (st' := [.inl 7, .inl (σ r_Tokens_kind 0), .inr (.inr (r_Tokens, 0))]) (σ' := srl σ []) rfl ?_
    refine wp_ic_ne rfl (by omega) (by omega) (fun h_22 => ?_) (fun h_22 => ?_)
    · show en_wp k_X10_goesOn 102 [some (.inr (.inr (r_Tokens, 0)))] [.inr (.inr (r_Tokens, 0))] (srl σ []) _
      refine wp_run 2 (pc' := 104) (ls' := [some (.inr (.inr (r_Tokens, 0)))]) (st' := [.inl 0, .inl 0, .inr (.inr (r_Tokens, 0))]) (σ' := srl σ []) rfl ?_
      refine wp_callv rfl rfl rfl rfl (ct_X10_goOn σ 0 0 (by omega)) ?_
      rintro _ _ ⟨v_23, r_24, rfl, rfl, p_25⟩
      have p_25 : r_24 = 0 ∧ (v_23 0) = if 0 = 0 then (σ r_Tokens_due) 0 else 0 := p_25
      show en_wp k_X10_goesOn 107 [some (.inr (.inr (r_Tokens, 0)))] [.inl r_24] (srl σ [(r_Tokens_due, v_23)]) _
      have kg := (p_25)
      exact wp_zret rfl (by omega) ⟨v_23, (σ r_Tokens_depth), (σ r_Tokens_lettersSeen), (σ r_Tokens_lawsSeen), (σ r_Tokens_mayEqual), r_24, rfl, srl_eq (l' := [(r_Tokens_due, v_23), (r_Tokens_depth, σ r_Tokens_depth), (r_Tokens_lettersSeen, σ r_Tokens_lettersSeen), (r_Tokens_lawsSeen, σ r_Tokens_lawsSeen), (r_Tokens_mayEqual, σ r_Tokens_mayEqual)]) (And.intro rfl trivial) (And.intro rfl (And.intro rfl (And.intro rfl (And.intro rfl (And.intro rfl trivial))))), (by unfold gO; simp_all)⟩
    · show en_wp k_X10_goesOn 98 [some (.inr (.inr (r_Tokens, 0)))] [.inr (.inr (r_Tokens, 0))] (srl σ []) _
      refine wp_run 3 (pc' := 104) (ls' := [some (.inr (.inr (r_Tokens, 0)))]) (st' := [.inl 0, .inl 1, .inr (.inr (r_Tokens, 0))]) (σ' := srl σ []) rfl ?_
      refine wp_callv rfl rfl rfl rfl (ct_X10_goOn σ 1 0 (by omega)) ?_
      rintro _ _ ⟨v_26, r_27, rfl, rfl, p_28⟩
      have p_28 : r_27 = 1 ∧ (v_26 0) = if 1 = 0 then (σ r_Tokens_due) 0 else 0 := p_28
      show en_wp k_X10_goesOn 107 [some (.inr (.inr (r_Tokens, 0)))] [.inl r_27] (srl σ [(r_Tokens_due, v_26)]) _
      have kg := (p_28)
      exact wp_zret rfl (by omega) ⟨v_26, (σ r_Tokens_depth), (σ r_Tokens_lettersSeen), (σ r_Tokens_lawsSeen), (σ r_Tokens_mayEqual), r_27, rfl, srl_eq (l' := [(r_Tokens_due, v_26), (r_Tokens_depth, σ r_Tokens_depth), (r_Tokens_lettersSeen, σ r_Tokens_lettersSeen), (r_Tokens_lawsSeen, σ r_Tokens_lawsSeen), (r_Tokens_mayEqual, σ r_Tokens_mayEqual)]) (And.intro rfl trivial) (And.intro rfl (And.intro rfl (And.intro rfl (And.intro rfl (And.intro rfl trivial))))), (by unfold gO; simp_all)⟩
  · refine wp_top h_1 ?_
    refine wp_run 4 (pc' := 114) (ls' := [some (.inr (.inr (r_Tokens, 0)))]) (st' := [.inl 10, .inl (σ r_Tokens_kind 0)]) (σ' := srl σ []) rfl ?_
    refine wp_ic_ne rfl (by omega) (by omega) (fun h_29 => ?_) (fun h_29 => ?_)
    · show en_wp k_X10_goesOn 126 [some (.inr (.inr (r_Tokens, 0)))] [] (srl σ []) _
      refine wp_run 1 (pc' := 127) (ls' := [some (.inr (.inr (r_Tokens, 0)))]) (st' := [.inr (.inr (r_Tokens, 0))]) (σ' := srl σ []) rfl ?_
      refine wp_callv rfl rfl rfl rfl (ct_X10_termBegins σ hk hd0 hle hla hme hal) ?_
      rintro _ _ ⟨v_30, v_31, r_32, rfl, rfl, p_33⟩
      have p_33 : (r_32 = 1 ∧ mB ((σ r_Tokens_due) 0, (σ r_Tokens_depth) 0, (σ r_Tokens_lettersSeen) 0, (σ r_Tokens_lawsSeen) 0, (σ r_Tokens_mayEqual) 0) ((σ r_Tokens_kind) 0) = some ((v_30 0), (v_31 0), (σ r_Tokens_lettersSeen) 0, (σ r_Tokens_lawsSeen) 0, (σ r_Tokens_mayEqual) 0)) ∨ (r_32 = 0 ∧ mB ((σ r_Tokens_due) 0, (σ r_Tokens_depth) 0, (σ r_Tokens_lettersSeen) 0, (σ r_Tokens_lawsSeen) 0, (σ r_Tokens_mayEqual) 0) ((σ r_Tokens_kind) 0) = none) := p_33
      show en_wp k_X10_goesOn 130 [some (.inr (.inr (r_Tokens, 0)))] [.inl r_32] (srl σ [(r_Tokens_due, v_30), (r_Tokens_depth, v_31)]) _
      have kf := (p_33)
      exact wp_zret rfl (by omega) ⟨v_30, v_31, (σ r_Tokens_lettersSeen), (σ r_Tokens_lawsSeen), (σ r_Tokens_mayEqual), r_32, rfl, srl_eq (l' := [(r_Tokens_due, v_30), (r_Tokens_depth, v_31), (r_Tokens_lettersSeen, σ r_Tokens_lettersSeen), (r_Tokens_lawsSeen, σ r_Tokens_lawsSeen), (r_Tokens_mayEqual, σ r_Tokens_mayEqual)]) (And.intro rfl (And.intro rfl trivial)) (And.intro rfl (And.intro rfl (And.intro rfl (And.intro rfl (And.intro rfl trivial))))), (by unfold gO; simp_all)⟩
    · show en_wp k_X10_goesOn 117 [some (.inr (.inr (r_Tokens, 0)))] [] (srl σ []) _
      refine wp_run 3 (pc' := 120) (ls' := [some (.inr (.inr (r_Tokens, 0)))]) (st' := [.inl 5, .inl 1, .inr (.inr (r_Tokens, 0))]) (σ' := srl σ []) rfl ?_
      refine wp_callv rfl rfl rfl rfl (ct_X10_goOn σ 1 5 (by omega)) ?_
      rintro _ _ ⟨v_34, r_35, rfl, rfl, p_36⟩
      have p_36 : r_35 = 1 ∧ (v_34 0) = if 1 = 0 then (σ r_Tokens_due) 0 else 5 := p_36
      show en_wp k_X10_goesOn 123 [some (.inr (.inr (r_Tokens, 0)))] [.inl r_35] (srl σ [(r_Tokens_due, v_34)]) _
      have kg := (p_36)
      refine wp_run 1 (pc' := 130) (ls' := [some (.inr (.inr (r_Tokens, 0)))]) (st' := [.inl r_35]) (σ' := srl σ [(r_Tokens_due, v_34)]) rfl ?_
      exact wp_zret rfl (by omega) ⟨v_34, (σ r_Tokens_depth), (σ r_Tokens_lettersSeen), (σ r_Tokens_lawsSeen), (σ r_Tokens_mayEqual), r_35, rfl, srl_eq (l' := [(r_Tokens_due, v_34), (r_Tokens_depth, σ r_Tokens_depth), (r_Tokens_lettersSeen, σ r_Tokens_lettersSeen), (r_Tokens_lawsSeen, σ r_Tokens_lawsSeen), (r_Tokens_mayEqual, σ r_Tokens_mayEqual)]) (And.intro rfl trivial) (And.intro rfl (And.intro rfl (And.intro rfl (And.intro rfl (And.intro rfl trivial))))), (by unfold gO; simp_all)⟩
  · refine wp_top h_1 ?_
    refine wp_run 2 (pc' := 132) (ls' := [some (.inr (.inr (r_Tokens, 0)))]) (st' := [.inr (.inr (r_Tokens, 0))]) (σ' := srl σ []) rfl ?_
    refine wp_callv rfl rfl rfl rfl (ct_X10_termBegins σ hk hd0 hle hla hme hal) ?_
    rintro _ _ ⟨v_37, v_38, r_39, rfl, rfl, p_40⟩
    have p_40 : (r_39 = 1 ∧ mB ((σ r_Tokens_due) 0, (σ r_Tokens_depth) 0, (σ r_Tokens_lettersSeen) 0, (σ r_Tokens_lawsSeen) 0, (σ r_Tokens_mayEqual) 0) ((σ r_Tokens_kind) 0) = some ((v_37 0), (v_38 0), (σ r_Tokens_lettersSeen) 0, (σ r_Tokens_lawsSeen) 0, (σ r_Tokens_mayEqual) 0)) ∨ (r_39 = 0 ∧ mB ((σ r_Tokens_due) 0, (σ r_Tokens_depth) 0, (σ r_Tokens_lettersSeen) 0, (σ r_Tokens_lawsSeen) 0, (σ r_Tokens_mayEqual) 0) ((σ r_Tokens_kind) 0) = none) := p_40
    show en_wp k_X10_goesOn 135 [some (.inr (.inr (r_Tokens, 0)))] [.inl r_39] (srl σ [(r_Tokens_due, v_37), (r_Tokens_depth, v_38)]) _
    have kf := (p_40)
    exact wp_zret rfl (by omega) ⟨v_37, v_38, (σ r_Tokens_lettersSeen), (σ r_Tokens_lawsSeen), (σ r_Tokens_mayEqual), r_39, rfl, srl_eq (l' := [(r_Tokens_due, v_37), (r_Tokens_depth, v_38), (r_Tokens_lettersSeen, σ r_Tokens_lettersSeen), (r_Tokens_lawsSeen, σ r_Tokens_lawsSeen), (r_Tokens_mayEqual, σ r_Tokens_mayEqual)]) (And.intro rfl (And.intro rfl trivial)) (And.intro rfl (And.intro rfl (And.intro rfl (And.intro rfl (And.intro rfl trivial))))), (by unfold gO; simp_all)⟩
  · refine wp_sw_out rfl (by omega) (by omega) rfl ?_
    show en_wp k_X10_goesOn 136 [some (.inr (.inr (r_Tokens, 0)))] [] (srl σ []) _
    refine wp_run 1 (pc' := 137) (ls' := [some (.inr (.inr (r_Tokens, 0)))]) (st' := [.inr (.inr (r_Tokens, 0))]) (σ' := srl σ []) rfl ?_
    refine wp_callv rfl rfl rfl rfl (ct_X10_termGoesOn σ hk hd0 hle hla hme hal) ?_
    rintro _ _ ⟨v_41, v_42, v_43, r_44, rfl, rfl, p_45⟩
    have p_45 : (r_44 = 1 ∧ tG ((σ r_Tokens_sumAlone) 0) ((σ r_Tokens_due) 0, (σ r_Tokens_depth) 0, (σ r_Tokens_lettersSeen) 0, (σ r_Tokens_lawsSeen) 0, (σ r_Tokens_mayEqual) 0) ((σ r_Tokens_kind) 0) = some ((v_41 0), (v_42 0), (σ r_Tokens_lettersSeen) 0, (σ r_Tokens_lawsSeen) 0, (v_43 0))) ∨ (r_44 = 0 ∧ tG ((σ r_Tokens_sumAlone) 0) ((σ r_Tokens_due) 0, (σ r_Tokens_depth) 0, (σ r_Tokens_lettersSeen) 0, (σ r_Tokens_lawsSeen) 0, (σ r_Tokens_mayEqual) 0) ((σ r_Tokens_kind) 0) = none) := p_45
    show en_wp k_X10_goesOn 140 [some (.inr (.inr (r_Tokens, 0)))] [.inl r_44] (srl σ [(r_Tokens_due, v_41), (r_Tokens_depth, v_42), (r_Tokens_mayEqual, v_43)]) _
    have kf := (p_45)
    exact wp_zret rfl (by omega) ⟨v_41, v_42, (σ r_Tokens_lettersSeen), (σ r_Tokens_lawsSeen), v_43, r_44, rfl, srl_eq (l' := [(r_Tokens_due, v_41), (r_Tokens_depth, v_42), (r_Tokens_lettersSeen, σ r_Tokens_lettersSeen), (r_Tokens_lawsSeen, σ r_Tokens_lawsSeen), (r_Tokens_mayEqual, v_43)]) (And.intro rfl (And.intro rfl (And.intro rfl trivial))) (And.intro rfl (And.intro rfl (And.intro rfl (And.intro rfl (And.intro rfl trivial))))), (by unfold gO; simp_all)⟩
