/-! contracts of methods, walked (written by wip/whole/walk.py from the annotations ann_m62) -/
theorem ct_X10_goOn (σ : en_m) (fits : Int) (th : Int) (hf : fits = 0 ∨ fits = 1) : en_ct z_X10_goOn [.inr (.inr (r_Tokens, 0)), .inl fits, .inl th] σ (fun r σ' => ∃ (v_Tokens_due : Int → Int), ∃ (rr : Int), r = some (.inl rr) ∧ σ' = srl σ [(r_Tokens_due, v_Tokens_due)] ∧ (rr = fits ∧ (v_Tokens_due 0) = if fits = 0 then (σ r_Tokens_due) 0 else th)) := by
  show en_wp k_X10_goOn 0 [some (.inr (.inr (r_Tokens, 0))), some (.inl fits), some (.inl th)] [] (srl σ []) (fun r σ' => ∃ (v_Tokens_due : Int → Int), ∃ (rr : Int), r = some (.inl rr) ∧ σ' = srl σ [(r_Tokens_due, v_Tokens_due)] ∧ (rr = fits ∧ (v_Tokens_due 0) = if fits = 0 then (σ r_Tokens_due) 0 else th))
  refine wp_run 1 (pc' := 1) (ls' := [some (.inr (.inr (r_Tokens, 0))), some (.inl fits), some (.inl th)]) (st' := [.inl fits]) (σ' := srl σ []) rfl ?_
  refine wp_if_eq rfl (by omega) (fun h_1 => ?_) (fun h_1 => ?_)
  · show en_wp k_X10_goOn 9 [some (.inr (.inr (r_Tokens, 0))), some (.inl fits), some (.inl th)] [] (srl σ []) _
    refine wp_run 1 (pc' := 10) (ls' := [some (.inr (.inr (r_Tokens, 0))), some (.inl fits), some (.inl th)]) (st' := [.inl fits]) (σ' := srl σ []) rfl ?_
    exact wp_zret rfl (by omega) ⟨(σ r_Tokens_due), fits, rfl, srl_eq (l' := [(r_Tokens_due, σ r_Tokens_due)]) trivial (And.intro rfl trivial), ⟨rfl, by first | (rw [if_pos (by omega)]; done) | (rw [if_neg (by omega)]; done)⟩⟩
  · show en_wp k_X10_goOn 4 [some (.inr (.inr (r_Tokens, 0))), some (.inl fits), some (.inl th)] [] (srl σ []) _
    refine wp_run 2 (pc' := 6) (ls' := [some (.inr (.inr (r_Tokens, 0))), some (.inl fits), some (.inl th)]) (st' := [.inl th, .inr (.inr (r_Tokens, 0))]) (σ' := srl σ []) rfl ?_
    refine wp_st (x := (9, [some (.inr (.inr (r_Tokens, 0))), some (.inl fits), some (.inl th)], [], sr (srl σ []) r_Tokens_due (fun _ => th))) rfl rfl (wp_wr (l2 := [(r_Tokens_due, (fun _ => th))]) rfl ?_)
    show en_wp k_X10_goOn 9 [some (.inr (.inr (r_Tokens, 0))), some (.inl fits), some (.inl th)] [] (srl σ [(r_Tokens_due, (fun _ => th))]) _
    refine wp_run 1 (pc' := 10) (ls' := [some (.inr (.inr (r_Tokens, 0))), some (.inl fits), some (.inl th)]) (st' := [.inl fits]) (σ' := srl σ [(r_Tokens_due, (fun _ => th))]) rfl ?_
    exact wp_zret rfl (by omega) ⟨(fun _ => th), fits, rfl, srl_eq (l' := [(r_Tokens_due, (fun _ => th))]) (And.intro rfl trivial) (And.intro rfl trivial), ⟨rfl, by first | (rw [if_pos (by omega)]; done) | (rw [if_neg (by omega)]; done)⟩⟩
theorem ct_X10_tellBegins (σ : en_m) (hk : 0 ≤ (σ r_Tokens_kind) 0 ∧ (σ r_Tokens_kind) 0 ≤ 12) (hd0 : 0 ≤ (σ r_Tokens_depth) 0 ∧ (σ r_Tokens_depth) 0 ≤ 10) (hle : 0 ≤ (σ r_Tokens_lettersSeen) 0 ∧ (σ r_Tokens_lettersSeen) 0 ≤ 10) (hla : 0 ≤ (σ r_Tokens_lawsSeen) 0 ∧ (σ r_Tokens_lawsSeen) 0 ≤ 10) (hme : (σ r_Tokens_mayEqual) 0 = 0 ∨ (σ r_Tokens_mayEqual) 0 = 1) (hal : (σ r_Tokens_sumAlone) 0 = 0 ∨ (σ r_Tokens_sumAlone) 0 = 1) : en_ct z_X10_tellBegins [.inr (.inr (r_Tokens, 0))] σ (fun r σ' => ∃ (v_Tokens_due : Int → Int), ∃ (v_Tokens_lettersSeen : Int → Int), ∃ (v_Tokens_lawsSeen : Int → Int), ∃ (v_Tokens_mayEqual : Int → Int), ∃ (rr : Int), r = some (.inl rr) ∧ σ' = srl σ [(r_Tokens_due, v_Tokens_due), (r_Tokens_lettersSeen, v_Tokens_lettersSeen), (r_Tokens_lawsSeen, v_Tokens_lawsSeen), (r_Tokens_mayEqual, v_Tokens_mayEqual)] ∧ ((rr = 1 ∧ tB ((σ r_Tokens_due) 0, (σ r_Tokens_depth) 0, (σ r_Tokens_lettersSeen) 0, (σ r_Tokens_lawsSeen) 0, (σ r_Tokens_mayEqual) 0) ((σ r_Tokens_kind) 0) = some ((v_Tokens_due 0), (σ r_Tokens_depth) 0, (v_Tokens_lettersSeen 0), (v_Tokens_lawsSeen 0), (v_Tokens_mayEqual 0))) ∨ (rr = 0 ∧ tB ((σ r_Tokens_due) 0, (σ r_Tokens_depth) 0, (σ r_Tokens_lettersSeen) 0, (σ r_Tokens_lawsSeen) 0, (σ r_Tokens_mayEqual) 0) ((σ r_Tokens_kind) 0) = none))) := by
  show en_wp k_X10_tellBegins 0 [some (.inr (.inr (r_Tokens, 0)))] [] (srl σ []) (fun r σ' => ∃ (v_Tokens_due : Int → Int), ∃ (v_Tokens_lettersSeen : Int → Int), ∃ (v_Tokens_lawsSeen : Int → Int), ∃ (v_Tokens_mayEqual : Int → Int), ∃ (rr : Int), r = some (.inl rr) ∧ σ' = srl σ [(r_Tokens_due, v_Tokens_due), (r_Tokens_lettersSeen, v_Tokens_lettersSeen), (r_Tokens_lawsSeen, v_Tokens_lawsSeen), (r_Tokens_mayEqual, v_Tokens_mayEqual)] ∧ ((rr = 1 ∧ tB ((σ r_Tokens_due) 0, (σ r_Tokens_depth) 0, (σ r_Tokens_lettersSeen) 0, (σ r_Tokens_lawsSeen) 0, (σ r_Tokens_mayEqual) 0) ((σ r_Tokens_kind) 0) = some ((v_Tokens_due 0), (σ r_Tokens_depth) 0, (v_Tokens_lettersSeen 0), (v_Tokens_lawsSeen 0), (v_Tokens_mayEqual 0))) ∨ (rr = 0 ∧ tB ((σ r_Tokens_due) 0, (σ r_Tokens_depth) 0, (σ r_Tokens_lettersSeen) 0, (σ r_Tokens_lawsSeen) 0, (σ r_Tokens_mayEqual) 0) ((σ r_Tokens_kind) 0) = none)))
  refine wp_run 2 (pc' := 4) (ls' := [some (.inr (.inr (r_Tokens, 0)))]) (st' := [.inl (σ r_Tokens_kind 0)]) (σ' := srl σ []) rfl ?_
  have h_1 : (σ r_Tokens_kind 0) = 1 ∨ (σ r_Tokens_kind 0) = 2 ∨ (σ r_Tokens_kind 0) = 3 ∨ (σ r_Tokens_kind 0) = 4 ∨ (¬ (σ r_Tokens_kind 0) = 1 ∧ ¬ (σ r_Tokens_kind 0) = 2 ∧ ¬ (σ r_Tokens_kind 0) = 3 ∧ ¬ (σ r_Tokens_kind 0) = 4) := by omega
  rcases h_1 with h_1 | h_1 | h_1 | h_1 | h_1
  · refine wp_top h_1 ?_
    refine wp_run 4 (pc' := 39) (ls' := [some (.inr (.inr (r_Tokens, 0)))]) (st' := [.inl 1, .inl 1, .inr (.inr (r_Tokens, 0))]) (σ' := srl σ []) rfl ?_
    refine wp_callv rfl rfl rfl rfl (ct_X10_goOn σ 1 1 (by omega)) ?_
    rintro _ _ ⟨v_2, r_3, rfl, rfl, p_4⟩
    have p_4 : r_3 = 1 ∧ (v_2 0) = if 1 = 0 then (σ r_Tokens_due) 0 else 1 := p_4
    show en_wp k_X10_tellBegins 42 [some (.inr (.inr (r_Tokens, 0)))] [.inl r_3] (srl σ [(r_Tokens_due, v_2)]) _
    have kg := (p_4)
    exact wp_zret rfl (by omega) ⟨v_2, (σ r_Tokens_lettersSeen), (σ r_Tokens_lawsSeen), (σ r_Tokens_mayEqual), r_3, rfl, srl_eq (l' := [(r_Tokens_due, v_2), (r_Tokens_lettersSeen, σ r_Tokens_lettersSeen), (r_Tokens_lawsSeen, σ r_Tokens_lawsSeen), (r_Tokens_mayEqual, σ r_Tokens_mayEqual)]) (And.intro rfl trivial) (And.intro rfl (And.intro rfl (And.intro rfl (And.intro rfl trivial)))), (by unfold tB; simp_all)⟩
  · refine wp_top h_1 ?_
    refine wp_run 6 (pc' := 50) (ls' := [some (.inr (.inr (r_Tokens, 0)))]) (st' := [.inl ((σ r_Tokens_lettersSeen 0) + 1), .inr (.inr (r_Tokens, 0))]) (σ' := srl σ []) rfl ?_
    refine wp_st (x := (53, [some (.inr (.inr (r_Tokens, 0)))], [], sr (srl σ []) r_Tokens_lettersSeen (fun _ => ((σ r_Tokens_lettersSeen 0) + 1)))) rfl rfl (wp_wr (l2 := [(r_Tokens_lettersSeen, (fun _ => ((σ r_Tokens_lettersSeen 0) + 1)))]) rfl ?_)
    show en_wp k_X10_tellBegins 53 [some (.inr (.inr (r_Tokens, 0)))] [] (srl σ [(r_Tokens_lettersSeen, (fun _ => ((σ r_Tokens_lettersSeen 0) + 1)))]) _
    refine wp_run 3 (pc' := 56) (ls' := [some (.inr (.inr (r_Tokens, 0)))]) (st' := [.inl 2, .inl 1, .inr (.inr (r_Tokens, 0))]) (σ' := srl σ [(r_Tokens_lettersSeen, (fun _ => ((σ r_Tokens_lettersSeen 0) + 1)))]) rfl ?_
    refine wp_callv rfl rfl rfl rfl (ct_X10_goOn (srl σ [(r_Tokens_lettersSeen, (fun _ => ((σ r_Tokens_lettersSeen 0) + 1)))]) 1 2 (by omega)) ?_
    rintro _ _ ⟨v_5, r_6, rfl, rfl, p_7⟩
    have p_7 : r_6 = 1 ∧ (v_5 0) = if 1 = 0 then (σ r_Tokens_due) 0 else 2 := p_7
    refine wp_bk (l2 := [(r_Tokens_lettersSeen, (fun _ => ((σ r_Tokens_lettersSeen 0) + 1))), (r_Tokens_due, v_5)]) rfl rfl ?_
    show en_wp k_X10_tellBegins 59 [some (.inr (.inr (r_Tokens, 0)))] [.inl r_6] (srl σ [(r_Tokens_lettersSeen, (fun _ => ((σ r_Tokens_lettersSeen 0) + 1))), (r_Tokens_due, v_5)]) _
    have kg := (p_7)
    exact wp_zret rfl (by omega) ⟨v_5, (fun _ => ((σ r_Tokens_lettersSeen 0) + 1)), (σ r_Tokens_lawsSeen), (σ r_Tokens_mayEqual), r_6, rfl, srl_eq (l' := [(r_Tokens_due, v_5), (r_Tokens_lettersSeen, (fun _ => ((σ r_Tokens_lettersSeen 0) + 1))), (r_Tokens_lawsSeen, σ r_Tokens_lawsSeen), (r_Tokens_mayEqual, σ r_Tokens_mayEqual)]) (And.intro rfl (And.intro rfl trivial)) (And.intro rfl (And.intro rfl (And.intro rfl (And.intro rfl trivial)))), (by unfold tB; simp_all)⟩
  · refine wp_top h_1 ?_
    refine wp_run 4 (pc' := 39) (ls' := [some (.inr (.inr (r_Tokens, 0)))]) (st' := [.inl 1, .inl 1, .inr (.inr (r_Tokens, 0))]) (σ' := srl σ []) rfl ?_
    refine wp_callv rfl rfl rfl rfl (ct_X10_goOn σ 1 1 (by omega)) ?_
    rintro _ _ ⟨v_8, r_9, rfl, rfl, p_10⟩
    have p_10 : r_9 = 1 ∧ (v_8 0) = if 1 = 0 then (σ r_Tokens_due) 0 else 1 := p_10
    show en_wp k_X10_tellBegins 42 [some (.inr (.inr (r_Tokens, 0)))] [.inl r_9] (srl σ [(r_Tokens_due, v_8)]) _
    have kg := (p_10)
    exact wp_zret rfl (by omega) ⟨v_8, (σ r_Tokens_lettersSeen), (σ r_Tokens_lawsSeen), (σ r_Tokens_mayEqual), r_9, rfl, srl_eq (l' := [(r_Tokens_due, v_8), (r_Tokens_lettersSeen, σ r_Tokens_lettersSeen), (r_Tokens_lawsSeen, σ r_Tokens_lawsSeen), (r_Tokens_mayEqual, σ r_Tokens_mayEqual)]) (And.intro rfl trivial) (And.intro rfl (And.intro rfl (And.intro rfl (And.intro rfl trivial)))), (by unfold tB; simp_all)⟩
  · refine wp_top h_1 ?_
    refine wp_run 6 (pc' := 67) (ls' := [some (.inr (.inr (r_Tokens, 0)))]) (st' := [.inl ((σ r_Tokens_lawsSeen 0) + 1), .inr (.inr (r_Tokens, 0))]) (σ' := srl σ []) rfl ?_
    refine wp_st (x := (70, [some (.inr (.inr (r_Tokens, 0)))], [], sr (srl σ []) r_Tokens_lawsSeen (fun _ => ((σ r_Tokens_lawsSeen 0) + 1)))) rfl rfl (wp_wr (l2 := [(r_Tokens_lawsSeen, (fun _ => ((σ r_Tokens_lawsSeen 0) + 1)))]) rfl ?_)
    show en_wp k_X10_tellBegins 70 [some (.inr (.inr (r_Tokens, 0)))] [] (srl σ [(r_Tokens_lawsSeen, (fun _ => ((σ r_Tokens_lawsSeen 0) + 1)))]) _
    refine wp_run 2 (pc' := 72) (ls' := [some (.inr (.inr (r_Tokens, 0)))]) (st' := [.inl 1, .inr (.inr (r_Tokens, 0))]) (σ' := srl σ [(r_Tokens_lawsSeen, (fun _ => ((σ r_Tokens_lawsSeen 0) + 1)))]) rfl ?_
    refine wp_put1 rfl rfl rfl rfl (by omega) (wp_wr (l2 := [(r_Tokens_lawsSeen, (fun _ => ((σ r_Tokens_lawsSeen 0) + 1))), (r_Tokens_mayEqual, (fun _ => 1))]) rfl ?_)
    show en_wp k_X10_tellBegins 75 [some (.inr (.inr (r_Tokens, 0)))] [] (srl σ [(r_Tokens_lawsSeen, (fun _ => ((σ r_Tokens_lawsSeen 0) + 1))), (r_Tokens_mayEqual, (fun _ => 1))]) _
    refine wp_run 3 (pc' := 78) (ls' := [some (.inr (.inr (r_Tokens, 0)))]) (st' := [.inl 4, .inl 1, .inr (.inr (r_Tokens, 0))]) (σ' := srl σ [(r_Tokens_lawsSeen, (fun _ => ((σ r_Tokens_lawsSeen 0) + 1))), (r_Tokens_mayEqual, (fun _ => 1))]) rfl ?_
    refine wp_callv rfl rfl rfl rfl (ct_X10_goOn (srl σ [(r_Tokens_lawsSeen, (fun _ => ((σ r_Tokens_lawsSeen 0) + 1))), (r_Tokens_mayEqual, (fun _ => 1))]) 1 4 (by omega)) ?_
    rintro _ _ ⟨v_11, r_12, rfl, rfl, p_13⟩
    have p_13 : r_12 = 1 ∧ (v_11 0) = if 1 = 0 then (σ r_Tokens_due) 0 else 4 := p_13
    refine wp_bk (l2 := [(r_Tokens_lawsSeen, (fun _ => ((σ r_Tokens_lawsSeen 0) + 1))), (r_Tokens_mayEqual, (fun _ => 1)), (r_Tokens_due, v_11)]) rfl rfl ?_
    show en_wp k_X10_tellBegins 81 [some (.inr (.inr (r_Tokens, 0)))] [.inl r_12] (srl σ [(r_Tokens_lawsSeen, (fun _ => ((σ r_Tokens_lawsSeen 0) + 1))), (r_Tokens_mayEqual, (fun _ => 1)), (r_Tokens_due, v_11)]) _
    have kg := (p_13)
    exact wp_zret rfl (by omega) ⟨v_11, (σ r_Tokens_lettersSeen), (fun _ => ((σ r_Tokens_lawsSeen 0) + 1)), (fun _ => 1), r_12, rfl, srl_eq (l' := [(r_Tokens_due, v_11), (r_Tokens_lettersSeen, σ r_Tokens_lettersSeen), (r_Tokens_lawsSeen, (fun _ => ((σ r_Tokens_lawsSeen 0) + 1))), (r_Tokens_mayEqual, (fun _ => 1))]) (And.intro rfl (And.intro rfl (And.intro rfl trivial))) (And.intro rfl (And.intro rfl (And.intro rfl (And.intro rfl trivial)))), (by unfold tB; simp_all)⟩
  · refine wp_sw_out rfl (by omega) (by omega) rfl ?_
    show en_wp k_X10_tellBegins 82 [some (.inr (.inr (r_Tokens, 0)))] [] (srl σ []) _
    refine wp_run 1 (pc' := 83) (ls' := [some (.inr (.inr (r_Tokens, 0)))]) (st' := [.inl 0]) (σ' := srl σ []) rfl ?_
    exact wp_zret rfl (.inl rfl) ⟨(σ r_Tokens_due), (σ r_Tokens_lettersSeen), (σ r_Tokens_lawsSeen), (σ r_Tokens_mayEqual), 0, rfl, srl_eq (l' := [(r_Tokens_due, σ r_Tokens_due), (r_Tokens_lettersSeen, σ r_Tokens_lettersSeen), (r_Tokens_lawsSeen, σ r_Tokens_lawsSeen), (r_Tokens_mayEqual, σ r_Tokens_mayEqual)]) trivial (And.intro rfl (And.intro rfl (And.intro rfl (And.intro rfl trivial)))), (by unfold tB; simp_all)⟩
theorem ct_X10_factorBegins (σ : en_m) (hk : 0 ≤ (σ r_Tokens_kind) 0 ∧ (σ r_Tokens_kind) 0 ≤ 12) (hd0 : 0 ≤ (σ r_Tokens_depth) 0 ∧ (σ r_Tokens_depth) 0 ≤ 10) (hle : 0 ≤ (σ r_Tokens_lettersSeen) 0 ∧ (σ r_Tokens_lettersSeen) 0 ≤ 10) (hla : 0 ≤ (σ r_Tokens_lawsSeen) 0 ∧ (σ r_Tokens_lawsSeen) 0 ≤ 10) (hme : (σ r_Tokens_mayEqual) 0 = 0 ∨ (σ r_Tokens_mayEqual) 0 = 1) (hal : (σ r_Tokens_sumAlone) 0 = 0 ∨ (σ r_Tokens_sumAlone) 0 = 1) : en_ct z_X10_factorBegins [.inr (.inr (r_Tokens, 0))] σ (fun r σ' => ∃ (v_Tokens_due : Int → Int), ∃ (v_Tokens_depth : Int → Int), ∃ (rr : Int), r = some (.inl rr) ∧ σ' = srl σ [(r_Tokens_due, v_Tokens_due), (r_Tokens_depth, v_Tokens_depth)] ∧ ((rr = 1 ∧ fB ((σ r_Tokens_due) 0, (σ r_Tokens_depth) 0, (σ r_Tokens_lettersSeen) 0, (σ r_Tokens_lawsSeen) 0, (σ r_Tokens_mayEqual) 0) ((σ r_Tokens_kind) 0) = some ((v_Tokens_due 0), (v_Tokens_depth 0), (σ r_Tokens_lettersSeen) 0, (σ r_Tokens_lawsSeen) 0, (σ r_Tokens_mayEqual) 0)) ∨ (rr = 0 ∧ fB ((σ r_Tokens_due) 0, (σ r_Tokens_depth) 0, (σ r_Tokens_lettersSeen) 0, (σ r_Tokens_lawsSeen) 0, (σ r_Tokens_mayEqual) 0) ((σ r_Tokens_kind) 0) = none))) := by
  show en_wp k_X10_factorBegins 0 [some (.inr (.inr (r_Tokens, 0)))] [] (srl σ []) (fun r σ' => ∃ (v_Tokens_due : Int → Int), ∃ (v_Tokens_depth : Int → Int), ∃ (rr : Int), r = some (.inl rr) ∧ σ' = srl σ [(r_Tokens_due, v_Tokens_due), (r_Tokens_depth, v_Tokens_depth)] ∧ ((rr = 1 ∧ fB ((σ r_Tokens_due) 0, (σ r_Tokens_depth) 0, (σ r_Tokens_lettersSeen) 0, (σ r_Tokens_lawsSeen) 0, (σ r_Tokens_mayEqual) 0) ((σ r_Tokens_kind) 0) = some ((v_Tokens_due 0), (v_Tokens_depth 0), (σ r_Tokens_lettersSeen) 0, (σ r_Tokens_lawsSeen) 0, (σ r_Tokens_mayEqual) 0)) ∨ (rr = 0 ∧ fB ((σ r_Tokens_due) 0, (σ r_Tokens_depth) 0, (σ r_Tokens_lettersSeen) 0, (σ r_Tokens_lawsSeen) 0, (σ r_Tokens_mayEqual) 0) ((σ r_Tokens_kind) 0) = none)))
  refine wp_run 3 (pc' := 6) (ls' := [some (.inr (.inr (r_Tokens, 0)))]) (st' := [.inl 11, .inl (σ r_Tokens_kind 0)]) (σ' := srl σ []) rfl ?_
  refine wp_ic_ne rfl (by omega) (by omega) (fun h_1 => ?_) (fun h_1 => ?_)
  · show en_wp k_X10_factorBegins 26 [some (.inr (.inr (r_Tokens, 0)))] [] (srl σ []) _
    refine wp_run 4 (pc' := 32) (ls' := [some (.inr (.inr (r_Tokens, 0)))]) (st' := [.inl 5, .inl (σ r_Tokens_kind 0), .inr (.inr (r_Tokens, 0))]) (σ' := srl σ []) rfl ?_
    refine wp_ic_ne rfl (by omega) (by omega) (fun h_2 => ?_) (fun h_2 => ?_)
    · show en_wp k_X10_factorBegins 39 [some (.inr (.inr (r_Tokens, 0)))] [.inr (.inr (r_Tokens, 0))] (srl σ []) _
      refine wp_run 2 (pc' := 42) (ls' := [some (.inr (.inr (r_Tokens, 0)))]) (st' := [.inl 6, .inl 0, .inr (.inr (r_Tokens, 0))]) (σ' := srl σ []) rfl ?_
      refine wp_callv rfl rfl rfl rfl (ct_X10_goOn σ 0 6 (by omega)) ?_
      rintro _ _ ⟨v_3, r_4, rfl, rfl, p_5⟩
      have p_5 : r_4 = 0 ∧ (v_3 0) = if 0 = 0 then (σ r_Tokens_due) 0 else 6 := p_5
      show en_wp k_X10_factorBegins 45 [some (.inr (.inr (r_Tokens, 0)))] [.inl r_4] (srl σ [(r_Tokens_due, v_3)]) _
      have kg := (p_5)
      exact wp_zret rfl (by omega) ⟨v_3, (σ r_Tokens_depth), r_4, rfl, srl_eq (l' := [(r_Tokens_due, v_3), (r_Tokens_depth, σ r_Tokens_depth)]) (And.intro rfl trivial) (And.intro rfl (And.intro rfl trivial)), (by unfold fB; simp_all)⟩
    · show en_wp k_X10_factorBegins 35 [some (.inr (.inr (r_Tokens, 0)))] [.inr (.inr (r_Tokens, 0))] (srl σ []) _
      refine wp_run 3 (pc' := 42) (ls' := [some (.inr (.inr (r_Tokens, 0)))]) (st' := [.inl 6, .inl 1, .inr (.inr (r_Tokens, 0))]) (σ' := srl σ []) rfl ?_
      refine wp_callv rfl rfl rfl rfl (ct_X10_goOn σ 1 6 (by omega)) ?_
      rintro _ _ ⟨v_6, r_7, rfl, rfl, p_8⟩
      have p_8 : r_7 = 1 ∧ (v_6 0) = if 1 = 0 then (σ r_Tokens_due) 0 else 6 := p_8
      show en_wp k_X10_factorBegins 45 [some (.inr (.inr (r_Tokens, 0)))] [.inl r_7] (srl σ [(r_Tokens_due, v_6)]) _
      have kg := (p_8)
      exact wp_zret rfl (by omega) ⟨v_6, (σ r_Tokens_depth), r_7, rfl, srl_eq (l' := [(r_Tokens_due, v_6), (r_Tokens_depth, σ r_Tokens_depth)]) (And.intro rfl trivial) (And.intro rfl (And.intro rfl trivial)), (by unfold fB; simp_all)⟩
  · show en_wp k_X10_factorBegins 9 [some (.inr (.inr (r_Tokens, 0)))] [] (srl σ []) _
    refine wp_run 5 (pc' := 16) (ls' := [some (.inr (.inr (r_Tokens, 0)))]) (st' := [.inl ((σ r_Tokens_depth 0) + 1), .inr (.inr (r_Tokens, 0))]) (σ' := srl σ []) rfl ?_
    refine wp_st (x := (19, [some (.inr (.inr (r_Tokens, 0)))], [], sr (srl σ []) r_Tokens_depth (fun _ => ((σ r_Tokens_depth 0) + 1)))) rfl rfl (wp_wr (l2 := [(r_Tokens_depth, (fun _ => ((σ r_Tokens_depth 0) + 1)))]) rfl ?_)
    show en_wp k_X10_factorBegins 19 [some (.inr (.inr (r_Tokens, 0)))] [] (srl σ [(r_Tokens_depth, (fun _ => ((σ r_Tokens_depth 0) + 1)))]) _
    refine wp_run 3 (pc' := 22) (ls' := [some (.inr (.inr (r_Tokens, 0)))]) (st' := [.inl 4, .inl 1, .inr (.inr (r_Tokens, 0))]) (σ' := srl σ [(r_Tokens_depth, (fun _ => ((σ r_Tokens_depth 0) + 1)))]) rfl ?_
    refine wp_callv rfl rfl rfl rfl (ct_X10_goOn (srl σ [(r_Tokens_depth, (fun _ => ((σ r_Tokens_depth 0) + 1)))]) 1 4 (by omega)) ?_
    rintro _ _ ⟨v_9, r_10, rfl, rfl, p_11⟩
    have p_11 : r_10 = 1 ∧ (v_9 0) = if 1 = 0 then (σ r_Tokens_due) 0 else 4 := p_11
    refine wp_bk (l2 := [(r_Tokens_depth, (fun _ => ((σ r_Tokens_depth 0) + 1))), (r_Tokens_due, v_9)]) rfl rfl ?_
    show en_wp k_X10_factorBegins 25 [some (.inr (.inr (r_Tokens, 0)))] [.inl r_10] (srl σ [(r_Tokens_depth, (fun _ => ((σ r_Tokens_depth 0) + 1))), (r_Tokens_due, v_9)]) _
    have kg := (p_11)
    exact wp_zret rfl (by omega) ⟨v_9, (fun _ => ((σ r_Tokens_depth 0) + 1)), r_10, rfl, srl_eq (l' := [(r_Tokens_due, v_9), (r_Tokens_depth, (fun _ => ((σ r_Tokens_depth 0) + 1)))]) (And.intro rfl (And.intro rfl trivial)) (And.intro rfl (And.intro rfl trivial)), (by unfold fB; simp_all)⟩
