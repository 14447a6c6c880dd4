/-! contracts of methods, walked (written by wip/whole/walk.py from the annotations ann_el2) -/
theorem ct_X5_indexOfBoth_Shape0 (σ : en_m) (n : Int) (D : Int) (p : Int) (a : Int) (b : Int) (hI : cS0 σ n D p) (h1 : 0 ≤ a ∧ a < sS n D (D + 1)) (h2 : 0 ≤ b ∧ b < sS n D (D + 1)) (h3 : sL n D a + sL n D b ≤ D) : en_fn z_X5_indexOfBoth [.inr (.inr (r_Shape0, 0)), .inl a, .inl b] σ (.inl (sS n D (sL n D a + sL n D b) + (a - sS n D (sL n D a)) * sW n D (sL n D b) + b - sS n D (sL n D b))) := by
  show en_wp k_X5_indexOfBoth 0 [some (.inr (.inr (r_Shape0, 0))), some (.inl a), some (.inl b), none, none] [] (srl σ []) (fun r σ' => r = some (.inl (sS n D (sL n D a + sL n D b) + (a - sS n D (sL n D a)) * sW n D (sL n D b) + b - sS n D (sL n D b))) ∧ σ' = σ)
  have hI2 := hI
  obtain ⟨hO, hn, hD, hp, hm, hst, hln⟩ := hI2
  obtain ⟨⟨hO1, hO2⟩, ⟨hO3, hO4⟩, hO5, hO6, hO7, hO8⟩ := id hO
  have hAb := sS_b (k := D + 1) hO
  have hla := hln a h1.1 h1.2
  have hlb := hln b h2.1 h2.2
  have hLa := sL_b n D a
  have hLb := sL_b n D b
  refine wp_run 3 (pc' := 5) (ls' := [some (.inr (.inr (r_Shape0, 0))), some (.inl a), some (.inl b), none, none]) (st' := [.inl a, .inr (.inr (r_Shape0_lengths, 0))]) (σ' := srl σ []) rfl ?_
  refine wp_iald0 rfl rfl (by omega) ?_
  show en_wp k_X5_indexOfBoth 6 [some (.inr (.inr (r_Shape0, 0))), some (.inl a), some (.inl b), none, none] [.inl (σ r_Shape0_lengths a)] (srl σ []) _
  refine wp_run 4 (pc' := 12) (ls' := [some (.inr (.inr (r_Shape0, 0))), some (.inl a), some (.inl b), some (.inl (σ r_Shape0_lengths a)), none]) (st' := [.inl b, .inr (.inr (r_Shape0_lengths, 0))]) (σ' := srl σ []) rfl ?_
  refine wp_iald0 rfl rfl (by omega) ?_
  show en_wp k_X5_indexOfBoth 13 [some (.inr (.inr (r_Shape0, 0))), some (.inl a), some (.inl b), some (.inl (σ r_Shape0_lengths a)), none] [.inl (σ r_Shape0_lengths b)] (srl σ []) _
  refine wp_run 6 (pc' := 23) (ls' := [some (.inr (.inr (r_Shape0, 0))), some (.inl a), some (.inl b), some (.inl (σ r_Shape0_lengths a)), some (.inl (σ r_Shape0_lengths b))]) (st' := [.inl (σ r_Shape0_degree 0), .inl ((σ r_Shape0_lengths a) + (σ r_Shape0_lengths b))]) (σ' := srl σ []) rfl ?_
  refine wp_ic_gt rfl (by omega) (by omega) (fun h_1 => ?_) (fun h_1 => ?_)
  · exfalso; omega
  · show en_wp k_X5_indexOfBoth 26 [some (.inr (.inr (r_Shape0, 0))), some (.inl a), some (.inl b), some (.inl (σ r_Shape0_lengths a)), some (.inl (σ r_Shape0_lengths b))] [] (srl σ []) _
    refine wp_run 5 (pc' := 34) (ls' := [some (.inr (.inr (r_Shape0, 0))), some (.inl a), some (.inl b), some (.inl (σ r_Shape0_lengths a)), some (.inl (σ r_Shape0_lengths b))]) (st' := [.inl ((σ r_Shape0_lengths a) + (σ r_Shape0_lengths b)), .inr (.inr (r_Shape0_start, 0))]) (σ' := srl σ []) rfl ?_
    refine wp_iald0 rfl rfl (by omega) ?_
    show en_wp k_X5_indexOfBoth 35 [some (.inr (.inr (r_Shape0, 0))), some (.inl a), some (.inl b), some (.inl (σ r_Shape0_lengths a)), some (.inl (σ r_Shape0_lengths b))] [.inl (σ r_Shape0_start ((σ r_Shape0_lengths a) + (σ r_Shape0_lengths b)))] (srl σ []) _
    refine wp_run 4 (pc' := 41) (ls' := [some (.inr (.inr (r_Shape0, 0))), some (.inl a), some (.inl b), some (.inl (σ r_Shape0_lengths a)), some (.inl (σ r_Shape0_lengths b))]) (st' := [.inl (σ r_Shape0_lengths a), .inr (.inr (r_Shape0_start, 0)), .inl a, .inl (σ r_Shape0_start ((σ r_Shape0_lengths a) + (σ r_Shape0_lengths b)))]) (σ' := srl σ []) rfl ?_
    refine wp_iald0 rfl rfl (by omega) ?_
    show en_wp k_X5_indexOfBoth 42 [some (.inr (.inr (r_Shape0, 0))), some (.inl a), some (.inl b), some (.inl (σ r_Shape0_lengths a)), some (.inl (σ r_Shape0_lengths b))] [.inl (σ r_Shape0_start (σ r_Shape0_lengths a)), .inl a, .inl (σ r_Shape0_start ((σ r_Shape0_lengths a) + (σ r_Shape0_lengths b)))] (srl σ []) _
    refine wp_run 4 (pc' := 49) (ls' := [some (.inr (.inr (r_Shape0, 0))), some (.inl a), some (.inl b), some (.inl (σ r_Shape0_lengths a)), some (.inl (σ r_Shape0_lengths b))]) (st' := [.inl (σ r_Shape0_lengths b), .inr (.inr (r_Shape0_many, 0)), .inl (a - (σ r_Shape0_start (σ r_Shape0_lengths a))), .inl (σ r_Shape0_start ((σ r_Shape0_lengths a) + (σ r_Shape0_lengths b)))]) (σ' := srl σ []) rfl ?_
    refine wp_iald0 rfl rfl (by omega) ?_
    show en_wp k_X5_indexOfBoth 50 [some (.inr (.inr (r_Shape0, 0))), some (.inl a), some (.inl b), some (.inl (σ r_Shape0_lengths a)), some (.inl (σ r_Shape0_lengths b))] [.inl (σ r_Shape0_many (σ r_Shape0_lengths b)), .inl (a - (σ r_Shape0_start (σ r_Shape0_lengths a))), .inl (σ r_Shape0_start ((σ r_Shape0_lengths a) + (σ r_Shape0_lengths b)))] (srl σ []) _
    refine wp_run 7 (pc' := 60) (ls' := [some (.inr (.inr (r_Shape0, 0))), some (.inl a), some (.inl b), some (.inl (σ r_Shape0_lengths a)), some (.inl (σ r_Shape0_lengths b))]) (st' := [.inl (σ r_Shape0_lengths b), .inr (.inr (r_Shape0_start, 0)), .inl (((σ r_Shape0_start ((σ r_Shape0_lengths a) + (σ r_Shape0_lengths b))) + ((a - (σ r_Shape0_start (σ r_Shape0_lengths a))) * (σ r_Shape0_many (σ r_Shape0_lengths b)))) + b)]) (σ' := srl σ []) rfl ?_
    refine wp_iald0 rfl rfl (by omega) ?_
    show en_wp k_X5_indexOfBoth 61 [some (.inr (.inr (r_Shape0, 0))), some (.inl a), some (.inl b), some (.inl (σ r_Shape0_lengths a)), some (.inl (σ r_Shape0_lengths b))] [.inl (σ r_Shape0_start (σ r_Shape0_lengths b)), .inl (((σ r_Shape0_start ((σ r_Shape0_lengths a) + (σ r_Shape0_lengths b))) + ((a - (σ r_Shape0_start (σ r_Shape0_lengths a))) * (σ r_Shape0_many (σ r_Shape0_lengths b)))) + b)] (srl σ []) _
    refine wp_run 2 (pc' := 66) (ls' := [some (.inr (.inr (r_Shape0, 0))), some (.inl a), some (.inl b), some (.inl (σ r_Shape0_lengths a)), some (.inl (σ r_Shape0_lengths b))]) (st' := [.inl ((((σ r_Shape0_start ((σ r_Shape0_lengths a) + (σ r_Shape0_lengths b))) + ((a - (σ r_Shape0_start (σ r_Shape0_lengths a))) * (σ r_Shape0_many (σ r_Shape0_lengths b)))) + b) - (σ r_Shape0_start (σ r_Shape0_lengths b)))]) (σ' := srl σ []) rfl ?_
    exact wp_iret rfl ⟨(by rw [hla, hlb, hst (sL n D a + sL n D b) (by omega) (by omega), hst (sL n D a) (by omega) (by omega), hst (sL n D b) (by omega) (by omega), hm (sL n D b) (by omega) (by omega)]), rfl⟩
theorem ct_X5_wordsUpTo_Shape0 (σ : en_m) (n : Int) (D : Int) (p : Int) (d : Int) (hI : cS0 σ n D p) (h1 : 0 ≤ d ∧ d ≤ 7) : en_fn z_X5_wordsUpTo [.inr (.inr (r_Shape0, 0)), .inl d] σ (.inl (sS n D (d + 1))) := by
  show en_wp k_X5_wordsUpTo 0 [some (.inr (.inr (r_Shape0, 0))), some (.inl d)] [] (srl σ []) (fun r σ' => r = some (.inl (sS n D (d + 1))) ∧ σ' = σ)
  have hI2 := hI
  obtain ⟨hO, hn, hD, hp, hm, hst, hln⟩ := hI2
  obtain ⟨⟨hO1, hO2⟩, ⟨hO3, hO4⟩, hO5, hO6, hO7, hO8⟩ := id hO
  refine wp_run 1 (pc' := 1) (ls' := [some (.inr (.inr (r_Shape0, 0))), some (.inl d)]) (st' := [.inl d]) (σ' := srl σ []) rfl ?_
  refine wp_if_lt rfl (by omega) (fun h_1 => ?_) (fun h_1 => ?_)
  · exfalso; omega
  · show en_wp k_X5_wordsUpTo 4 [some (.inr (.inr (r_Shape0, 0))), some (.inl d)] [] (srl σ []) _
    refine wp_run 2 (pc' := 7) (ls' := [some (.inr (.inr (r_Shape0, 0))), some (.inl d)]) (st' := [.inl 7, .inl d]) (σ' := srl σ []) rfl ?_
    refine wp_ic_gt rfl (by omega) (by omega) (fun h_2 => ?_) (fun h_2 => ?_)
    · exfalso; omega
    · show en_wp k_X5_wordsUpTo 10 [some (.inr (.inr (r_Shape0, 0))), some (.inl d)] [] (srl σ []) _
      refine wp_run 5 (pc' := 17) (ls' := [some (.inr (.inr (r_Shape0, 0))), some (.inl d)]) (st' := [.inl (d + 1), .inr (.inr (r_Shape0_start, 0))]) (σ' := srl σ []) rfl ?_
      refine wp_iald0 rfl rfl (by omega) ?_
      show en_wp k_X5_wordsUpTo 18 [some (.inr (.inr (r_Shape0, 0))), some (.inl d)] [.inl (σ r_Shape0_start (d + 1))] (srl σ []) _
      refine wp_run 1 (pc' := 22) (ls' := [some (.inr (.inr (r_Shape0, 0))), some (.inl d)]) (st' := [.inl (σ r_Shape0_start (d + 1))]) (σ' := srl σ []) rfl ?_
      exact wp_iret rfl ⟨(by rw [hst (d + 1) (by omega) (by omega)]), rfl⟩
theorem ct_X5_indexOfBoth_Shape1 (σ : en_m) (n : Int) (D : Int) (p : Int) (a : Int) (b : Int) (hI : cS1 σ n D p) (h1 : 0 ≤ a ∧ a < sS n D (D + 1)) (h2 : 0 ≤ b ∧ b < sS n D (D + 1)) (h3 : sL n D a + sL n D b ≤ D) : en_fn z_X5_indexOfBoth [.inr (.inr (r_Shape1, 0)), .inl a, .inl b] σ (.inl (sS n D (sL n D a + sL n D b) + (a - sS n D (sL n D a)) * sW n D (sL n D b) + b - sS n D (sL n D b))) := by
  show en_wp k_X5_indexOfBoth 0 [some (.inr (.inr (r_Shape1, 0))), some (.inl a), some (.inl b), none, none] [] (srl σ []) (fun r σ' => r = some (.inl (sS n D (sL n D a + sL n D b) + (a - sS n D (sL n D a)) * sW n D (sL n D b) + b - sS n D (sL n D b))) ∧ σ' = σ)
  have hI2 := hI
  obtain ⟨hO, hn, hD, hp, hm, hst, hln⟩ := hI2
  obtain ⟨⟨hO1, hO2⟩, ⟨hO3, hO4⟩, hO5, hO6, hO7, hO8⟩ := id hO
  have hAb := sS_b (k := D + 1) hO
  have hla := hln a h1.1 h1.2
  have hlb := hln b h2.1 h2.2
  have hLa := sL_b n D a
  have hLb := sL_b n D b
  refine wp_run 3 (pc' := 5) (ls' := [some (.inr (.inr (r_Shape1, 0))), some (.inl a), some (.inl b), none, none]) (st' := [.inl a, .inr (.inr (r_Shape1_lengths, 0))]) (σ' := srl σ []) rfl ?_
  refine wp_iald0 rfl rfl (by omega) ?_
  show en_wp k_X5_indexOfBoth 6 [some (.inr (.inr (r_Shape1, 0))), some (.inl a), some (.inl b), none, none] [.inl (σ r_Shape1_lengths a)] (srl σ []) _
  refine wp_run 4 (pc' := 12) (ls' := [some (.inr (.inr (r_Shape1, 0))), some (.inl a), some (.inl b), some (.inl (σ r_Shape1_lengths a)), none]) (st' := [.inl b, .inr (.inr (r_Shape1_lengths, 0))]) (σ' := srl σ []) rfl ?_
  refine wp_iald0 rfl rfl (by omega) ?_
  show en_wp k_X5_indexOfBoth 13 [some (.inr (.inr (r_Shape1, 0))), some (.inl a), some (.inl b), some (.inl (σ r_Shape1_lengths a)), none] [.inl (σ r_Shape1_lengths b)] (srl σ []) _
  refine wp_run 6 (pc' := 23) (ls' := [some (.inr (.inr (r_Shape1, 0))), some (.inl a), some (.inl b), some (.inl (σ r_Shape1_lengths a)), some (.inl (σ r_Shape1_lengths b))]) (st' := [.inl (σ r_Shape1_degree 0), .inl ((σ r_Shape1_lengths a) + (σ r_Shape1_lengths b))]) (σ' := srl σ []) rfl ?_
  refine wp_ic_gt rfl (by omega) (by omega) (fun h_1 => ?_) (fun h_1 => ?_)
  · exfalso; omega
  · show en_wp k_X5_indexOfBoth 26 [some (.inr (.inr (r_Shape1, 0))), some (.inl a), some (.inl b), some (.inl (σ r_Shape1_lengths a)), some (.inl (σ r_Shape1_lengths b))] [] (srl σ []) _
    refine wp_run 5 (pc' := 34) (ls' := [some (.inr (.inr (r_Shape1, 0))), some (.inl a), some (.inl b), some (.inl (σ r_Shape1_lengths a)), some (.inl (σ r_Shape1_lengths b))]) (st' := [.inl ((σ r_Shape1_lengths a) + (σ r_Shape1_lengths b)), .inr (.inr (r_Shape1_start, 0))]) (σ' := srl σ []) rfl ?_
    refine wp_iald0 rfl rfl (by omega) ?_
    show en_wp k_X5_indexOfBoth 35 [some (.inr (.inr (r_Shape1, 0))), some (.inl a), some (.inl b), some (.inl (σ r_Shape1_lengths a)), some (.inl (σ r_Shape1_lengths b))] [.inl (σ r_Shape1_start ((σ r_Shape1_lengths a) + (σ r_Shape1_lengths b)))] (srl σ []) _
    refine wp_run 4 (pc' := 41) (ls' := [some (.inr (.inr (r_Shape1, 0))), some (.inl a), some (.inl b), some (.inl (σ r_Shape1_lengths a)), some (.inl (σ r_Shape1_lengths b))]) (st' := [.inl (σ r_Shape1_lengths a), .inr (.inr (r_Shape1_start, 0)), .inl a, .inl (σ r_Shape1_start ((σ r_Shape1_lengths a) + (σ r_Shape1_lengths b)))]) (σ' := srl σ []) rfl ?_
    refine wp_iald0 rfl rfl (by omega) ?_
    show en_wp k_X5_indexOfBoth 42 [some (.inr (.inr (r_Shape1, 0))), some (.inl a), some (.inl b), some (.inl (σ r_Shape1_lengths a)), some (.inl (σ r_Shape1_lengths b))] [.inl (σ r_Shape1_start (σ r_Shape1_lengths a)), .inl a, .inl (σ r_Shape1_start ((σ r_Shape1_lengths a) + (σ r_Shape1_lengths b)))] (srl σ []) _
    refine wp_run 4 (pc' := 49) (ls' := [some (.inr (.inr (r_Shape1, 0))), some (.inl a), some (.inl b), some (.inl (σ r_Shape1_lengths a)), some (.inl (σ r_Shape1_lengths b))]) (st' := [.inl (σ r_Shape1_lengths b), .inr (.inr (r_Shape1_many, 0)), .inl (a - (σ r_Shape1_start (σ r_Shape1_lengths a))), .inl (σ r_Shape1_start ((σ r_Shape1_lengths a) + (σ r_Shape1_lengths b)))]) (σ' := srl σ []) rfl ?_
    refine wp_iald0 rfl rfl (by omega) ?_
    show en_wp k_X5_indexOfBoth 50 [some (.inr (.inr (r_Shape1, 0))), some (.inl a), some (.inl b), some (.inl (σ r_Shape1_lengths a)), some (.inl (σ r_Shape1_lengths b))] [.inl (σ r_Shape1_many (σ r_Shape1_lengths b)), .inl (a - (σ r_Shape1_start (σ r_Shape1_lengths a))), .inl (σ r_Shape1_start ((σ r_Shape1_lengths a) + (σ r_Shape1_lengths b)))] (srl σ []) _
    refine wp_run 7 (pc' := 60) (ls' := [some (.inr (.inr (r_Shape1, 0))), some (.inl a), some (.inl b), some (.inl (σ r_Shape1_lengths a)), some (.inl (σ r_Shape1_lengths b))]) (st' := [.inl (σ r_Shape1_lengths b), .inr (.inr (r_Shape1_start, 0)), .inl (((σ r_Shape1_start ((σ r_Shape1_lengths a) + (σ r_Shape1_lengths b))) + ((a - (σ r_Shape1_start (σ r_Shape1_lengths a))) * (σ r_Shape1_many (σ r_Shape1_lengths b)))) + b)]) (σ' := srl σ []) rfl ?_
    refine wp_iald0 rfl rfl (by omega) ?_
    show en_wp k_X5_indexOfBoth 61 [some (.inr (.inr (r_Shape1, 0))), some (.inl a), some (.inl b), some (.inl (σ r_Shape1_lengths a)), some (.inl (σ r_Shape1_lengths b))] [.inl (σ r_Shape1_start (σ r_Shape1_lengths b)), .inl (((σ r_Shape1_start ((σ r_Shape1_lengths a) + (σ r_Shape1_lengths b))) + ((a - (σ r_Shape1_start (σ r_Shape1_lengths a))) * (σ r_Shape1_many (σ r_Shape1_lengths b)))) + b)] (srl σ []) _
    refine wp_run 2 (pc' := 66) (ls' := [some (.inr (.inr (r_Shape1, 0))), some (.inl a), some (.inl b), some (.inl (σ r_Shape1_lengths a)), some (.inl (σ r_Shape1_lengths b))]) (st' := [.inl ((((σ r_Shape1_start ((σ r_Shape1_lengths a) + (σ r_Shape1_lengths b))) + ((a - (σ r_Shape1_start (σ r_Shape1_lengths a))) * (σ r_Shape1_many (σ r_Shape1_lengths b)))) + b) - (σ r_Shape1_start (σ r_Shape1_lengths b)))]) (σ' := srl σ []) rfl ?_
    exact wp_iret rfl ⟨(by rw [hla, hlb, hst (sL n D a + sL n D b) (by omega) (by omega), hst (sL n D a) (by omega) (by omega), hst (sL n D b) (by omega) (by omega), hm (sL n D b) (by omega) (by omega)]), rfl⟩
theorem ct_X5_wordsUpTo_Shape1 (σ : en_m) (n : Int) (D : Int) (p : Int) (d : Int) (hI : cS1 σ n D p) (h1 : 0 ≤ d ∧ d ≤ 7) : en_fn z_X5_wordsUpTo [.inr (.inr (r_Shape1, 0)), .inl d] σ (.inl (sS n D (d + 1))) := by
  show en_wp k_X5_wordsUpTo 0 [some (.inr (.inr (r_Shape1, 0))), some (.inl d)] [] (srl σ []) (fun r σ' => r = some (.inl (sS n D (d + 1))) ∧ σ' = σ)
  have hI2 := hI
  obtain ⟨hO, hn, hD, hp, hm, hst, hln⟩ := hI2
  obtain ⟨⟨hO1, hO2⟩, ⟨hO3, hO4⟩, hO5, hO6, hO7, hO8⟩ := id hO
  refine wp_run 1 (pc' := 1) (ls' := [some (.inr (.inr (r_Shape1, 0))), some (.inl d)]) (st' := [.inl d]) (σ' := srl σ []) rfl ?_
  refine wp_if_lt rfl (by omega) (fun h_1 => ?_) (fun h_1 => ?_)
  · exfalso; omega
  · show en_wp k_X5_wordsUpTo 4 [some (.inr (.inr (r_Shape1, 0))), some (.inl d)] [] (srl σ []) _
    refine wp_run 2 (pc' := 7) (ls' := [some (.inr (.inr (r_Shape1, 0))), some (.inl d)]) (st' := [.inl 7, .inl d]) (σ' := srl σ []) rfl ?_
    refine wp_ic_gt rfl (by omega) (by omega) (fun h_2 => ?_) (fun h_2 => ?_)
    · exfalso; omega
    · show en_wp k_X5_wordsUpTo 10 [some (.inr (.inr (r_Shape1, 0))), some (.inl d)] [] (srl σ []) _
      refine wp_run 5 (pc' := 17) (ls' := [some (.inr (.inr (r_Shape1, 0))), some (.inl d)]) (st' := [.inl (d + 1), .inr (.inr (r_Shape1_start, 0))]) (σ' := srl σ []) rfl ?_
      refine wp_iald0 rfl rfl (by omega) ?_
      show en_wp k_X5_wordsUpTo 18 [some (.inr (.inr (r_Shape1, 0))), some (.inl d)] [.inl (σ r_Shape1_start (d + 1))] (srl σ []) _
      refine wp_run 1 (pc' := 22) (ls' := [some (.inr (.inr (r_Shape1, 0))), some (.inl d)]) (st' := [.inl (σ r_Shape1_start (d + 1))]) (σ' := srl σ []) rfl ?_
      exact wp_iret rfl ⟨(by rw [hst (d + 1) (by omega) (by omega)]), rfl⟩
theorem ct_X5_topOf_Shape0_Elements_rowsR (σ : en_m) (n : Int) (D : Int) (p : Int) (o : Int) (hI : cS0 σ n D p) (hE : R97 ((σ r_Elements_rowsR))) : en_fn z_X5_topOf [.inr (.inr (r_Shape0, 0)), .inr (.inr (r_Elements_rowsR, o))] σ (.inl (if (sG (fun k => (σ r_Elements_rowsR) (o + k)) (sS n D (D + 1)).toNat) = -1 then -1 else sL n D (sG (fun k => (σ r_Elements_rowsR) (o + k)) (sS n D (D + 1)).toNat))) := by
  show en_wp k_X5_topOf 0 [some (.inr (.inr (r_Shape0, 0))), some (.inr (.inr (r_Elements_rowsR, o))), none] [] (srl σ []) (fun r σ' => r = some (.inl (if (sG (fun k => (σ r_Elements_rowsR) (o + k)) (sS n D (D + 1)).toNat) = -1 then -1 else sL n D (sG (fun k => (σ r_Elements_rowsR) (o + k)) (sS n D (D + 1)).toNat))) ∧ σ' = σ)
  have hI2 := hI
  obtain ⟨hO, hn, hD, hp, hm, hst, hln⟩ := hI2
  obtain ⟨⟨hO1, hO2⟩, ⟨hO3, hO4⟩, hO5, hO6, hO7, hO8⟩ := id hO
  have hAb := sS_b (k := D + 1) hO
  refine wp_run 2 (pc' := 2) (ls' := [some (.inr (.inr (r_Shape0, 0))), some (.inr (.inr (r_Elements_rowsR, o))), none]) (st' := [.inr (.inr (r_Elements_rowsR, o)), .inr (.inr (r_Shape0, 0))]) (σ' := srl σ []) rfl ?_
  refine wp_fnv (v := .inl (sG (fun k => (σ r_Elements_rowsR) (o + k)) (sS n D (D + 1)).toNat)) rfl rfl rfl rfl (ct_X5_greatestIn_Shape0_Elements_rowsR σ n D p o hI hE) ?_
  show en_wp k_X5_topOf 5 [some (.inr (.inr (r_Shape0, 0))), some (.inr (.inr (r_Elements_rowsR, o))), none] [.inl (sG (fun k => (σ r_Elements_rowsR) (o + k)) (sS n D (D + 1)).toNat)] (srl σ []) _
  have q_1 : -1 ≤ sG (fun k => (σ r_Elements_rowsR) (o + k)) (sS n D (D + 1)).toNat ∧ sG (fun k => (σ r_Elements_rowsR) (o + k)) (sS n D (D + 1)).toNat < sS n D (D + 1) := sG_bb hO
  refine wp_run 3 (pc' := 8) (ls' := [some (.inr (.inr (r_Shape0, 0))), some (.inr (.inr (r_Elements_rowsR, o))), some (.inl (sG (fun k => (σ r_Elements_rowsR) (o + k)) (sS n D (D + 1)).toNat))]) (st' := [.inl (-1), .inl (sG (fun k => (σ r_Elements_rowsR) (o + k)) (sS n D (D + 1)).toNat)]) (σ' := srl σ []) rfl ?_
  refine wp_ic_ne rfl (by omega) (by omega) (fun h_2 => ?_) (fun h_2 => ?_)
  · show en_wp k_X5_topOf 15 [some (.inr (.inr (r_Shape0, 0))), some (.inr (.inr (r_Elements_rowsR, o))), some (.inl (sG (fun k => (σ r_Elements_rowsR) (o + k)) (sS n D (D + 1)).toNat))] [] (srl σ []) _
    refine wp_run 2 (pc' := 17) (ls' := [some (.inr (.inr (r_Shape0, 0))), some (.inr (.inr (r_Elements_rowsR, o))), some (.inl (sG (fun k => (σ r_Elements_rowsR) (o + k)) (sS n D (D + 1)).toNat))]) (st' := [.inl (sG (fun k => (σ r_Elements_rowsR) (o + k)) (sS n D (D + 1)).toNat), .inr (.inr (r_Shape0, 0))]) (σ' := srl σ []) rfl ?_
    refine wp_fnv (v := .inl (sL n D (sG (fun k => (σ r_Elements_rowsR) (o + k)) (sS n D (D + 1)).toNat))) rfl rfl rfl rfl (ct_X5_lengthAt_Shape0 σ n D p (sG (fun k => (σ r_Elements_rowsR) (o + k)) (sS n D (D + 1)).toNat) hI (by omega)) ?_
    show en_wp k_X5_topOf 20 [some (.inr (.inr (r_Shape0, 0))), some (.inr (.inr (r_Elements_rowsR, o))), some (.inl (sG (fun k => (σ r_Elements_rowsR) (o + k)) (sS n D (D + 1)).toNat))] [.inl (sL n D (sG (fun k => (σ r_Elements_rowsR) (o + k)) (sS n D (D + 1)).toNat))] (srl σ []) _
    have q_3 : 0 ≤ sL n D (sG (fun k => (σ r_Elements_rowsR) (o + k)) (sS n D (D + 1)).toNat) ∧ sL n D (sG (fun k => (σ r_Elements_rowsR) (o + k)) (sS n D (D + 1)).toNat) ≤ 7 := sL_b _ _ _
    exact wp_iret rfl ⟨(by repeat (first | rfl | rw [if_pos (by omega)] | rw [if_neg (by omega)])), rfl⟩
  · show en_wp k_X5_topOf 11 [some (.inr (.inr (r_Shape0, 0))), some (.inr (.inr (r_Elements_rowsR, o))), some (.inl (sG (fun k => (σ r_Elements_rowsR) (o + k)) (sS n D (D + 1)).toNat))] [] (srl σ []) _
    refine wp_run 2 (pc' := 20) (ls' := [some (.inr (.inr (r_Shape0, 0))), some (.inr (.inr (r_Elements_rowsR, o))), some (.inl (sG (fun k => (σ r_Elements_rowsR) (o + k)) (sS n D (D + 1)).toNat))]) (st' := [.inl (-1)]) (σ' := srl σ []) rfl ?_
    exact wp_iret rfl ⟨(by repeat (first | rfl | rw [if_pos (by omega)] | rw [if_neg (by omega)])), rfl⟩
theorem ct_X3_sizeOf_Nought0 (σ : en_m) (n : Int) (D : Int) (p : Int) (d : Int) (hI : cS0 σ n D p) (h1 : i32 d) : en_fn z_X3_sizeOf [.inr (.inr (r_Nought0, 0)), .inl d] σ (.inl (if 0 ≤ d ∧ d ≤ D then (σ r_Nought0_sizes) d else 0)) := by
  show en_wp k_X3_sizeOf 0 [some (.inr (.inr (r_Nought0, 0))), some (.inl d)] [] (srl σ []) (fun r σ' => r = some (.inl (if 0 ≤ d ∧ d ≤ D then (σ r_Nought0_sizes) d else 0)) ∧ σ' = σ)
  have hI2 := hI
  obtain ⟨hO, hn, hD, hp, hm, hst, hln⟩ := hI2
  obtain ⟨⟨hO1, hO2⟩, ⟨hO3, hO4⟩, hO5, hO6, hO7, hO8⟩ := id hO
  refine wp_run 3 (pc' := 5) (ls' := [some (.inr (.inr (r_Nought0, 0))), some (.inl d)]) (st' := [.inl d, .inr (.inr (r_Shape0, 0))]) (σ' := srl σ []) rfl ?_
  refine wp_fnv (v := .inl (bI (0 ≤ d ∧ d ≤ D))) rfl rfl rfl rfl (ct_X5_hasDegree_Shape0 σ n D p d hI (by omega)) ?_
  show en_wp k_X3_sizeOf 8 [some (.inr (.inr (r_Nought0, 0))), some (.inl d)] [.inl (bI (0 ≤ d ∧ d ≤ D))] (srl σ []) _
  refine wp_if_eqb rfl (fun h_1 => ?_) (fun h_1 => ?_)
  · show en_wp k_X3_sizeOf 20 [some (.inr (.inr (r_Nought0, 0))), some (.inl d)] [] (srl σ []) _
    refine wp_run 1 (pc' := 21) (ls' := [some (.inr (.inr (r_Nought0, 0))), some (.inl d)]) (st' := [.inl 0]) (σ' := srl σ []) rfl ?_
    exact wp_iret rfl ⟨(by repeat (first | rfl | rw [if_pos (by omega)] | rw [if_neg (by omega)])), rfl⟩
  · show en_wp k_X3_sizeOf 11 [some (.inr (.inr (r_Nought0, 0))), some (.inl d)] [] (srl σ []) _
    refine wp_run 3 (pc' := 16) (ls' := [some (.inr (.inr (r_Nought0, 0))), some (.inl d)]) (st' := [.inl d, .inr (.inr (r_Nought0_sizes, 0))]) (σ' := srl σ []) rfl ?_
    refine wp_iald0 rfl rfl (by omega) ?_
    show en_wp k_X3_sizeOf 17 [some (.inr (.inr (r_Nought0, 0))), some (.inl d)] [.inl (σ r_Nought0_sizes d)] (srl σ []) _
    refine wp_run 1 (pc' := 21) (ls' := [some (.inr (.inr (r_Nought0, 0))), some (.inl d)]) (st' := [.inl (σ r_Nought0_sizes d)]) (σ' := srl σ []) rfl ?_
    exact wp_iret rfl ⟨(by repeat (first | rfl | rw [if_pos (by omega)] | rw [if_neg (by omega)])), rfl⟩
theorem ct_X3_sizeOf_Nought1 (σ : en_m) (n : Int) (D : Int) (p : Int) (d : Int) (hI : cS0 σ n D p) (h1 : i32 d) : en_fn z_X3_sizeOf [.inr (.inr (r_Nought1, 0)), .inl d] σ (.inl (if 0 ≤ d ∧ d ≤ D then (σ r_Nought1_sizes) d else 0)) := by
  show en_wp k_X3_sizeOf 0 [some (.inr (.inr (r_Nought1, 0))), some (.inl d)] [] (srl σ []) (fun r σ' => r = some (.inl (if 0 ≤ d ∧ d ≤ D then (σ r_Nought1_sizes) d else 0)) ∧ σ' = σ)
  have hI2 := hI
  obtain ⟨hO, hn, hD, hp, hm, hst, hln⟩ := hI2
  obtain ⟨⟨hO1, hO2⟩, ⟨hO3, hO4⟩, hO5, hO6, hO7, hO8⟩ := id hO
  refine wp_run 3 (pc' := 5) (ls' := [some (.inr (.inr (r_Nought1, 0))), some (.inl d)]) (st' := [.inl d, .inr (.inr (r_Shape0, 0))]) (σ' := srl σ []) rfl ?_
  refine wp_fnv (v := .inl (bI (0 ≤ d ∧ d ≤ D))) rfl rfl rfl rfl (ct_X5_hasDegree_Shape0 σ n D p d hI (by omega)) ?_
  show en_wp k_X3_sizeOf 8 [some (.inr (.inr (r_Nought1, 0))), some (.inl d)] [.inl (bI (0 ≤ d ∧ d ≤ D))] (srl σ []) _
  refine wp_if_eqb rfl (fun h_1 => ?_) (fun h_1 => ?_)
  · show en_wp k_X3_sizeOf 20 [some (.inr (.inr (r_Nought1, 0))), some (.inl d)] [] (srl σ []) _
    refine wp_run 1 (pc' := 21) (ls' := [some (.inr (.inr (r_Nought1, 0))), some (.inl d)]) (st' := [.inl 0]) (σ' := srl σ []) rfl ?_
    exact wp_iret rfl ⟨(by repeat (first | rfl | rw [if_pos (by omega)] | rw [if_neg (by omega)])), rfl⟩
  · show en_wp k_X3_sizeOf 11 [some (.inr (.inr (r_Nought1, 0))), some (.inl d)] [] (srl σ []) _
    refine wp_run 3 (pc' := 16) (ls' := [some (.inr (.inr (r_Nought1, 0))), some (.inl d)]) (st' := [.inl d, .inr (.inr (r_Nought1_sizes, 0))]) (σ' := srl σ []) rfl ?_
    refine wp_iald0 rfl rfl (by omega) ?_
    show en_wp k_X3_sizeOf 17 [some (.inr (.inr (r_Nought1, 0))), some (.inl d)] [.inl (σ r_Nought1_sizes d)] (srl σ []) _
    refine wp_run 1 (pc' := 21) (ls' := [some (.inr (.inr (r_Nought1, 0))), some (.inl d)]) (st' := [.inl (σ r_Nought1_sizes d)]) (σ' := srl σ []) rfl ?_
    exact wp_iret rfl ⟨(by repeat (first | rfl | rw [if_pos (by omega)] | rw [if_neg (by omega)])), rfl⟩
theorem ct_X0_isTooLong_Elements_rowsR_Elements_rowsR (σ : en_m) (n : Int) (D : Int) (p : Int) (a : Int) (b : Int) (hI : cS0 σ n D p) (hE : R97 ((σ r_Elements_rowsR))) : en_fn z_X0_isTooLong [.inr (.inr (r_Elements, 0)), .inr (.inr (r_Elements_rowsR, a)), .inr (.inr (r_Elements_rowsR, b))] σ (.inl (bI ((¬ (if (sG (fun k => (σ r_Elements_rowsR) (a + k)) (sS n D (D + 1)).toNat) = -1 then -1 else sL n D (sG (fun k => (σ r_Elements_rowsR) (a + k)) (sS n D (D + 1)).toNat)) = -1 ∧ ¬ (if (sG (fun k => (σ r_Elements_rowsR) (b + k)) (sS n D (D + 1)).toNat) = -1 then -1 else sL n D (sG (fun k => (σ r_Elements_rowsR) (b + k)) (sS n D (D + 1)).toNat)) = -1) ∧ D < (if (sG (fun k => (σ r_Elements_rowsR) (a + k)) (sS n D (D + 1)).toNat) = -1 then -1 else sL n D (sG (fun k => (σ r_Elements_rowsR) (a + k)) (sS n D (D + 1)).toNat)) + (if (sG (fun k => (σ r_Elements_rowsR) (b + k)) (sS n D (D + 1)).toNat) = -1 then -1 else sL n D (sG (fun k => (σ r_Elements_rowsR) (b + k)) (sS n D (D + 1)).toNat))))) := by
  show en_wp k_X0_isTooLong 0 [some (.inr (.inr (r_Elements, 0))), some (.inr (.inr (r_Elements_rowsR, a))), some (.inr (.inr (r_Elements_rowsR, b))), none, none] [] (srl σ []) (fun r σ' => r = some (.inl (bI ((¬ (if (sG (fun k => (σ r_Elements_rowsR) (a + k)) (sS n D (D + 1)).toNat) = -1 then -1 else sL n D (sG (fun k => (σ r_Elements_rowsR) (a + k)) (sS n D (D + 1)).toNat)) = -1 ∧ ¬ (if (sG (fun k => (σ r_Elements_rowsR) (b + k)) (sS n D (D + 1)).toNat) = -1 then -1 else sL n D (sG (fun k => (σ r_Elements_rowsR) (b + k)) (sS n D (D + 1)).toNat)) = -1) ∧ D < (if (sG (fun k => (σ r_Elements_rowsR) (a + k)) (sS n D (D + 1)).toNat) = -1 then -1 else sL n D (sG (fun k => (σ r_Elements_rowsR) (a + k)) (sS n D (D + 1)).toNat)) + (if (sG (fun k => (σ r_Elements_rowsR) (b + k)) (sS n D (D + 1)).toNat) = -1 then -1 else sL n D (sG (fun k => (σ r_Elements_rowsR) (b + k)) (sS n D (D + 1)).toNat))))) ∧ σ' = σ)
  have hI2 := hI
  obtain ⟨hO, hn, hD, hp, hm, hst, hln⟩ := hI2
  obtain ⟨⟨hO1, hO2⟩, ⟨hO3, hO4⟩, hO5, hO6, hO7, hO8⟩ := id hO
  have hAb := sS_b (k := D + 1) hO
  refine wp_run 3 (pc' := 5) (ls' := [some (.inr (.inr (r_Elements, 0))), some (.inr (.inr (r_Elements_rowsR, a))), some (.inr (.inr (r_Elements_rowsR, b))), none, none]) (st' := [.inr (.inr (r_Elements_rowsR, a)), .inr (.inr (r_Shape0, 0))]) (σ' := srl σ []) rfl ?_
  refine wp_fnv (v := .inl (if (sG (fun k => (σ r_Elements_rowsR) (a + k)) (sS n D (D + 1)).toNat) = -1 then -1 else sL n D (sG (fun k => (σ r_Elements_rowsR) (a + k)) (sS n D (D + 1)).toNat))) rfl rfl rfl rfl (ct_X5_topOf_Shape0_Elements_rowsR σ n D p a hI hE) ?_
  show en_wp k_X0_isTooLong 8 [some (.inr (.inr (r_Elements, 0))), some (.inr (.inr (r_Elements_rowsR, a))), some (.inr (.inr (r_Elements_rowsR, b))), none, none] [.inl (if (sG (fun k => (σ r_Elements_rowsR) (a + k)) (sS n D (D + 1)).toNat) = -1 then -1 else sL n D (sG (fun k => (σ r_Elements_rowsR) (a + k)) (sS n D (D + 1)).toNat))] (srl σ []) _
  have q_1 : -1 ≤ (if (sG (fun k => (σ r_Elements_rowsR) (a + k)) (sS n D (D + 1)).toNat) = -1 then -1 else sL n D (sG (fun k => (σ r_Elements_rowsR) (a + k)) (sS n D (D + 1)).toNat)) ∧ (if (sG (fun k => (σ r_Elements_rowsR) (a + k)) (sS n D (D + 1)).toNat) = -1 then -1 else sL n D (sG (fun k => (σ r_Elements_rowsR) (a + k)) (sS n D (D + 1)).toNat)) ≤ 7 := (by have h9 := sL_b n D (sG (fun k => (σ r_Elements_rowsR) (a + k)) (sS n D (D + 1)).toNat); omega)
  refine wp_run 4 (pc' := 14) (ls' := [some (.inr (.inr (r_Elements, 0))), some (.inr (.inr (r_Elements_rowsR, a))), some (.inr (.inr (r_Elements_rowsR, b))), some (.inl (if (sG (fun k => (σ r_Elements_rowsR) (a + k)) (sS n D (D + 1)).toNat) = -1 then -1 else sL n D (sG (fun k => (σ r_Elements_rowsR) (a + k)) (sS n D (D + 1)).toNat))), none]) (st' := [.inr (.inr (r_Elements_rowsR, b)), .inr (.inr (r_Shape0, 0))]) (σ' := srl σ []) rfl ?_
  refine wp_fnv (v := .inl (if (sG (fun k => (σ r_Elements_rowsR) (b + k)) (sS n D (D + 1)).toNat) = -1 then -1 else sL n D (sG (fun k => (σ r_Elements_rowsR) (b + k)) (sS n D (D + 1)).toNat))) rfl rfl rfl rfl (ct_X5_topOf_Shape0_Elements_rowsR σ n D p b hI hE) ?_
  show en_wp k_X0_isTooLong 17 [some (.inr (.inr (r_Elements, 0))), some (.inr (.inr (r_Elements_rowsR, a))), some (.inr (.inr (r_Elements_rowsR, b))), some (.inl (if (sG (fun k => (σ r_Elements_rowsR) (a + k)) (sS n D (D + 1)).toNat) = -1 then -1 else sL n D (sG (fun k => (σ r_Elements_rowsR) (a + k)) (sS n D (D + 1)).toNat))), none] [.inl (if (sG (fun k => (σ r_Elements_rowsR) (b + k)) (sS n D (D + 1)).toNat) = -1 then -1 else sL n D (sG (fun k => (σ r_Elements_rowsR) (b + k)) (sS n D (D + 1)).toNat))] (srl σ []) _
  have q_2 : -1 ≤ (if (sG (fun k => (σ r_Elements_rowsR) (b + k)) (sS n D (D + 1)).toNat) = -1 then -1 else sL n D (sG (fun k => (σ r_Elements_rowsR) (b + k)) (sS n D (D + 1)).toNat)) ∧ (if (sG (fun k => (σ r_Elements_rowsR) (b + k)) (sS n D (D + 1)).toNat) = -1 then -1 else sL n D (sG (fun k => (σ r_Elements_rowsR) (b + k)) (sS n D (D + 1)).toNat)) ≤ 7 := (by have h9 := sL_b n D (sG (fun k => (σ r_Elements_rowsR) (b + k)) (sS n D (D + 1)).toNat); omega)
  refine wp_run 3 (pc' := 21) (ls' := [some (.inr (.inr (r_Elements, 0))), some (.inr (.inr (r_Elements_rowsR, a))), some (.inr (.inr (r_Elements_rowsR, b))), some (.inl (if (sG (fun k => (σ r_Elements_rowsR) (a + k)) (sS n D (D + 1)).toNat) = -1 then -1 else sL n D (sG (fun k => (σ r_Elements_rowsR) (a + k)) (sS n D (D + 1)).toNat))), some (.inl (if (sG (fun k => (σ r_Elements_rowsR) (b + k)) (sS n D (D + 1)).toNat) = -1 then -1 else sL n D (sG (fun k => (σ r_Elements_rowsR) (b + k)) (sS n D (D + 1)).toNat)))]) (st' := [.inl (-1), .inl (if (sG (fun k => (σ r_Elements_rowsR) (a + k)) (sS n D (D + 1)).toNat) = -1 then -1 else sL n D (sG (fun k => (σ r_Elements_rowsR) (a + k)) (sS n D (D + 1)).toNat))]) (σ' := srl σ []) rfl ?_
  refine wp_ic_eq rfl (by omega) (by omega) (fun h_3 => ?_) (fun h_3 => ?_)
  · show en_wp k_X0_isTooLong 48 [some (.inr (.inr (r_Elements, 0))), some (.inr (.inr (r_Elements_rowsR, a))), some (.inr (.inr (r_Elements_rowsR, b))), some (.inl (if (sG (fun k => (σ r_Elements_rowsR) (a + k)) (sS n D (D + 1)).toNat) = -1 then -1 else sL n D (sG (fun k => (σ r_Elements_rowsR) (a + k)) (sS n D (D + 1)).toNat))), some (.inl (if (sG (fun k => (σ r_Elements_rowsR) (b + k)) (sS n D (D + 1)).toNat) = -1 then -1 else sL n D (sG (fun k => (σ r_Elements_rowsR) (b + k)) (sS n D (D + 1)).toNat)))] [] (srl σ []) _
    refine wp_run 1 (pc' := 49) (ls' := [some (.inr (.inr (r_Elements, 0))), some (.inr (.inr (r_Elements_rowsR, a))), some (.inr (.inr (r_Elements_rowsR, b))), some (.inl (if (sG (fun k => (σ r_Elements_rowsR) (a + k)) (sS n D (D + 1)).toNat) = -1 then -1 else sL n D (sG (fun k => (σ r_Elements_rowsR) (a + k)) (sS n D (D + 1)).toNat))), some (.inl (if (sG (fun k => (σ r_Elements_rowsR) (b + k)) (sS n D (D + 1)).toNat) = -1 then -1 else sL n D (sG (fun k => (σ r_Elements_rowsR) (b + k)) (sS n D (D + 1)).toNat)))]) (st' := [.inl 0]) (σ' := srl σ []) rfl ?_
    exact wp_zret rfl (.inl rfl) ⟨(by first | rfl | (rw [bI_t (by omega)]) | (rw [bI_f (by omega)])), rfl⟩
  · show en_wp k_X0_isTooLong 24 [some (.inr (.inr (r_Elements, 0))), some (.inr (.inr (r_Elements_rowsR, a))), some (.inr (.inr (r_Elements_rowsR, b))), some (.inl (if (sG (fun k => (σ r_Elements_rowsR) (a + k)) (sS n D (D + 1)).toNat) = -1 then -1 else sL n D (sG (fun k => (σ r_Elements_rowsR) (a + k)) (sS n D (D + 1)).toNat))), some (.inl (if (sG (fun k => (σ r_Elements_rowsR) (b + k)) (sS n D (D + 1)).toNat) = -1 then -1 else sL n D (sG (fun k => (σ r_Elements_rowsR) (b + k)) (sS n D (D + 1)).toNat)))] [] (srl σ []) _
    refine wp_run 2 (pc' := 27) (ls' := [some (.inr (.inr (r_Elements, 0))), some (.inr (.inr (r_Elements_rowsR, a))), some (.inr (.inr (r_Elements_rowsR, b))), some (.inl (if (sG (fun k => (σ r_Elements_rowsR) (a + k)) (sS n D (D + 1)).toNat) = -1 then -1 else sL n D (sG (fun k => (σ r_Elements_rowsR) (a + k)) (sS n D (D + 1)).toNat))), some (.inl (if (sG (fun k => (σ r_Elements_rowsR) (b + k)) (sS n D (D + 1)).toNat) = -1 then -1 else sL n D (sG (fun k => (σ r_Elements_rowsR) (b + k)) (sS n D (D + 1)).toNat)))]) (st' := [.inl (-1), .inl (if (sG (fun k => (σ r_Elements_rowsR) (b + k)) (sS n D (D + 1)).toNat) = -1 then -1 else sL n D (sG (fun k => (σ r_Elements_rowsR) (b + k)) (sS n D (D + 1)).toNat))]) (σ' := srl σ []) rfl ?_
    refine wp_ic_eq rfl (by omega) (by omega) (fun h_4 => ?_) (fun h_4 => ?_)
    · show en_wp k_X0_isTooLong 48 [some (.inr (.inr (r_Elements, 0))), some (.inr (.inr (r_Elements_rowsR, a))), some (.inr (.inr (r_Elements_rowsR, b))), some (.inl (if (sG (fun k => (σ r_Elements_rowsR) (a + k)) (sS n D (D + 1)).toNat) = -1 then -1 else sL n D (sG (fun k => (σ r_Elements_rowsR) (a + k)) (sS n D (D + 1)).toNat))), some (.inl (if (sG (fun k => (σ r_Elements_rowsR) (b + k)) (sS n D (D + 1)).toNat) = -1 then -1 else sL n D (sG (fun k => (σ r_Elements_rowsR) (b + k)) (sS n D (D + 1)).toNat)))] [] (srl σ []) _
      refine wp_run 1 (pc' := 49) (ls' := [some (.inr (.inr (r_Elements, 0))), some (.inr (.inr (r_Elements_rowsR, a))), some (.inr (.inr (r_Elements_rowsR, b))), some (.inl (if (sG (fun k => (σ r_Elements_rowsR) (a + k)) (sS n D (D + 1)).toNat) = -1 then -1 else sL n D (sG (fun k => (σ r_Elements_rowsR) (a + k)) (sS n D (D + 1)).toNat))), some (.inl (if (sG (fun k => (σ r_Elements_rowsR) (b + k)) (sS n D (D + 1)).toNat) = -1 then -1 else sL n D (sG (fun k => (σ r_Elements_rowsR) (b + k)) (sS n D (D + 1)).toNat)))]) (st' := [.inl 0]) (σ' := srl σ []) rfl ?_
      exact wp_zret rfl (.inl rfl) ⟨(by first | rfl | (rw [bI_t (by omega)]) | (rw [bI_f (by omega)])), rfl⟩
    · show en_wp k_X0_isTooLong 30 [some (.inr (.inr (r_Elements, 0))), some (.inr (.inr (r_Elements_rowsR, a))), some (.inr (.inr (r_Elements_rowsR, b))), some (.inl (if (sG (fun k => (σ r_Elements_rowsR) (a + k)) (sS n D (D + 1)).toNat) = -1 then -1 else sL n D (sG (fun k => (σ r_Elements_rowsR) (a + k)) (sS n D (D + 1)).toNat))), some (.inl (if (sG (fun k => (σ r_Elements_rowsR) (b + k)) (sS n D (D + 1)).toNat) = -1 then -1 else sL n D (sG (fun k => (σ r_Elements_rowsR) (b + k)) (sS n D (D + 1)).toNat)))] [] (srl σ []) _
      refine wp_run 5 (pc' := 38) (ls' := [some (.inr (.inr (r_Elements, 0))), some (.inr (.inr (r_Elements_rowsR, a))), some (.inr (.inr (r_Elements_rowsR, b))), some (.inl (if (sG (fun k => (σ r_Elements_rowsR) (a + k)) (sS n D (D + 1)).toNat) = -1 then -1 else sL n D (sG (fun k => (σ r_Elements_rowsR) (a + k)) (sS n D (D + 1)).toNat))), some (.inl (if (sG (fun k => (σ r_Elements_rowsR) (b + k)) (sS n D (D + 1)).toNat) = -1 then -1 else sL n D (sG (fun k => (σ r_Elements_rowsR) (b + k)) (sS n D (D + 1)).toNat)))]) (st' := [.inr (.inr (r_Shape0, 0)), .inl ((if (sG (fun k => (σ r_Elements_rowsR) (a + k)) (sS n D (D + 1)).toNat) = -1 then -1 else sL n D (sG (fun k => (σ r_Elements_rowsR) (a + k)) (sS n D (D + 1)).toNat)) + (if (sG (fun k => (σ r_Elements_rowsR) (b + k)) (sS n D (D + 1)).toNat) = -1 then -1 else sL n D (sG (fun k => (σ r_Elements_rowsR) (b + k)) (sS n D (D + 1)).toNat)))]) (σ' := srl σ []) rfl ?_
      refine wp_fnv (v := .inl D) rfl rfl rfl rfl (ct_X5_longest_Shape0 σ n D p hI) ?_
      show en_wp k_X0_isTooLong 41 [some (.inr (.inr (r_Elements, 0))), some (.inr (.inr (r_Elements_rowsR, a))), some (.inr (.inr (r_Elements_rowsR, b))), some (.inl (if (sG (fun k => (σ r_Elements_rowsR) (a + k)) (sS n D (D + 1)).toNat) = -1 then -1 else sL n D (sG (fun k => (σ r_Elements_rowsR) (a + k)) (sS n D (D + 1)).toNat))), some (.inl (if (sG (fun k => (σ r_Elements_rowsR) (b + k)) (sS n D (D + 1)).toNat) = -1 then -1 else sL n D (sG (fun k => (σ r_Elements_rowsR) (b + k)) (sS n D (D + 1)).toNat)))] [.inl D, .inl ((if (sG (fun k => (σ r_Elements_rowsR) (a + k)) (sS n D (D + 1)).toNat) = -1 then -1 else sL n D (sG (fun k => (σ r_Elements_rowsR) (a + k)) (sS n D (D + 1)).toNat)) + (if (sG (fun k => (σ r_Elements_rowsR) (b + k)) (sS n D (D + 1)).toNat) = -1 then -1 else sL n D (sG (fun k => (σ r_Elements_rowsR) (b + k)) (sS n D (D + 1)).toNat)))] (srl σ []) _
      refine wp_ic_le rfl (by omega) (by omega) (fun h_5 => ?_) (fun h_5 => ?_)
      · show en_wp k_X0_isTooLong 48 [some (.inr (.inr (r_Elements, 0))), some (.inr (.inr (r_Elements_rowsR, a))), some (.inr (.inr (r_Elements_rowsR, b))), some (.inl (if (sG (fun k => (σ r_Elements_rowsR) (a + k)) (sS n D (D + 1)).toNat) = -1 then -1 else sL n D (sG (fun k => (σ r_Elements_rowsR) (a + k)) (sS n D (D + 1)).toNat))), some (.inl (if (sG (fun k => (σ r_Elements_rowsR) (b + k)) (sS n D (D + 1)).toNat) = -1 then -1 else sL n D (sG (fun k => (σ r_Elements_rowsR) (b + k)) (sS n D (D + 1)).toNat)))] [] (srl σ []) _
        refine wp_run 1 (pc' := 49) (ls' := [some (.inr (.inr (r_Elements, 0))), some (.inr (.inr (r_Elements_rowsR, a))), some (.inr (.inr (r_Elements_rowsR, b))), some (.inl (if (sG (fun k => (σ r_Elements_rowsR) (a + k)) (sS n D (D + 1)).toNat) = -1 then -1 else sL n D (sG (fun k => (σ r_Elements_rowsR) (a + k)) (sS n D (D + 1)).toNat))), some (.inl (if (sG (fun k => (σ r_Elements_rowsR) (b + k)) (sS n D (D + 1)).toNat) = -1 then -1 else sL n D (sG (fun k => (σ r_Elements_rowsR) (b + k)) (sS n D (D + 1)).toNat)))]) (st' := [.inl 0]) (σ' := srl σ []) rfl ?_
        exact wp_zret rfl (.inl rfl) ⟨(by first | rfl | (rw [bI_t (by omega)]) | (rw [bI_f (by omega)])), rfl⟩
      · show en_wp k_X0_isTooLong 44 [some (.inr (.inr (r_Elements, 0))), some (.inr (.inr (r_Elements_rowsR, a))), some (.inr (.inr (r_Elements_rowsR, b))), some (.inl (if (sG (fun k => (σ r_Elements_rowsR) (a + k)) (sS n D (D + 1)).toNat) = -1 then -1 else sL n D (sG (fun k => (σ r_Elements_rowsR) (a + k)) (sS n D (D + 1)).toNat))), some (.inl (if (sG (fun k => (σ r_Elements_rowsR) (b + k)) (sS n D (D + 1)).toNat) = -1 then -1 else sL n D (sG (fun k => (σ r_Elements_rowsR) (b + k)) (sS n D (D + 1)).toNat)))] [] (srl σ []) _
        refine wp_run 2 (pc' := 49) (ls' := [some (.inr (.inr (r_Elements, 0))), some (.inr (.inr (r_Elements_rowsR, a))), some (.inr (.inr (r_Elements_rowsR, b))), some (.inl (if (sG (fun k => (σ r_Elements_rowsR) (a + k)) (sS n D (D + 1)).toNat) = -1 then -1 else sL n D (sG (fun k => (σ r_Elements_rowsR) (a + k)) (sS n D (D + 1)).toNat))), some (.inl (if (sG (fun k => (σ r_Elements_rowsR) (b + k)) (sS n D (D + 1)).toNat) = -1 then -1 else sL n D (sG (fun k => (σ r_Elements_rowsR) (b + k)) (sS n D (D + 1)).toNat)))]) (st' := [.inl 1]) (σ' := srl σ []) rfl ?_
        exact wp_zret rfl (.inr rfl) ⟨(by first | rfl | (rw [bI_t (by omega)]) | (rw [bI_f (by omega)])), rfl⟩
theorem ct_X0_become_Elements_spare (σ : en_m) (e : Int) (h1 : 0 ≤ e ∧ e ≤ 5) : en_ct z_X0_become [.inr (.inr (r_Elements, 0)), .inl e, .inr (.inr (r_Elements_spare, 0))] σ (fun r σ' => r = none ∧ σ' = srl σ [(r_Elements_rowsR, (seg (σ r_Elements_rowsR) (e * 364) 364 (fun k => (σ r_Elements_spare) k)))]) := by
  show en_wp k_X0_become 0 [some (.inr (.inr (r_Elements, 0))), some (.inl e), some (.inr (.inr (r_Elements_spare, 0)))] [] (srl σ []) (fun r σ' => r = none ∧ σ' = srl σ [(r_Elements_rowsR, (seg (σ r_Elements_rowsR) (e * 364) 364 (fun k => (σ r_Elements_spare) k)))])
  refine wp_run 5 (pc' := 7) (ls' := [some (.inr (.inr (r_Elements, 0))), some (.inl e), some (.inr (.inr (r_Elements_spare, 0)))]) (st' := [.inl e, .inr (.inr (r_Elements_rows, 0)), .inl 0, .inr (.inr (r_Elements_spare, 0))]) (σ' := srl σ []) rfl ?_
  refine wp_aald (m := 364) rfl rfl rfl (by omega) ?_
  show en_wp k_X0_become 8 [some (.inr (.inr (r_Elements, 0))), some (.inl e), some (.inr (.inr (r_Elements_spare, 0)))] [.inr (.inr (r_Elements_rowsR, (e * 364))), .inl 0, .inr (.inr (r_Elements_spare, 0))] (srl σ []) _
  refine wp_run 2 (pc' := 12) (ls' := [some (.inr (.inr (r_Elements, 0))), some (.inl e), some (.inr (.inr (r_Elements_spare, 0)))]) (st' := [.inl 364, .inl 0, .inr (.inr (r_Elements_rowsR, (e * 364))), .inl 0, .inr (.inr (r_Elements_spare, 0))]) (σ' := srl σ []) rfl ?_
  refine wp_copy rfl rfl rfl rfl (by omega) (by omega) (by omega) (wp_wr (l2 := [(r_Elements_rowsR, (en_cpy (σ r_Elements_spare) (σ r_Elements_rowsR) (0 + 0) ((e * 364) + 0) 364))]) rfl ?_)
  show en_wp k_X0_become 15 [some (.inr (.inr (r_Elements, 0))), some (.inl e), some (.inr (.inr (r_Elements_spare, 0)))] [] (srl σ [(r_Elements_rowsR, (en_cpy (σ r_Elements_spare) (σ r_Elements_rowsR) (0 + 0) ((e * 364) + 0) 364))]) _
  exact wp_vret rfl ⟨rfl, (by have h9 := cpy_seg (f := σ r_Elements_spare) (g := σ r_Elements_rowsR) (h := fun k => σ r_Elements_spare k) (o := e * 364) (m := 0) (sp := 0 + 0) (dp := e * 364 + 0) (n := 364) (by omega) (by omega) (by omega) (fun j _ _ => by simp only [Int.zero_add]); rw [seg_0] at h9; rw [h9]; rfl)⟩
