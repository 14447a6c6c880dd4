/-! contracts of methods, walked (written by wip/whole/walk.py from the annotations) -/
theorem ct_X5_lettersTold_Shape0 (σ : en_m) (n : Int) (D : Int) (p : Int) (hI : cS0 σ n D p) : en_fn z_X5_lettersTold [.inr (.inr (r_Shape0, 0))] σ (.inl n) := by
  show en_wp k_X5_lettersTold 0 [some (.inr (.inr (r_Shape0, 0)))] [] (srl σ []) (fun r σ' => r = some (.inl n) ∧ σ' = σ)
  have hI2 := hI
  obtain ⟨hO, hn, hD, hp, hm, hst, hln⟩ := hI2
  obtain ⟨⟨hO1, hO2⟩, ⟨hO3, hO4⟩, hO5, hO6, hO7, hO8⟩ := id hO
  refine wp_run 2 (pc' := 4) (ls' := [some (.inr (.inr (r_Shape0, 0)))]) (st' := [.inl (σ r_Shape0_letters 0)]) (σ' := srl σ []) rfl ?_
  exact wp_iret rfl ⟨(by rw [hn]), rfl⟩
theorem ct_X5_longest_Shape0 (σ : en_m) (n : Int) (D : Int) (p : Int) (hI : cS0 σ n D p) : en_fn z_X5_longest [.inr (.inr (r_Shape0, 0))] σ (.inl D) := by
  show en_wp k_X5_longest 0 [some (.inr (.inr (r_Shape0, 0)))] [] (srl σ []) (fun r σ' => r = some (.inl D) ∧ σ' = σ)
  have hI2 := hI
  obtain ⟨hO, hn, hD, hp, hm, hst, hln⟩ := hI2
  obtain ⟨⟨hO1, hO2⟩, ⟨hO3, hO4⟩, hO5, hO6, hO7, hO8⟩ := id hO
  refine wp_run 2 (pc' := 4) (ls' := [some (.inr (.inr (r_Shape0, 0)))]) (st' := [.inl (σ r_Shape0_degree 0)]) (σ' := srl σ []) rfl ?_
  exact wp_iret rfl ⟨(by rw [hD]), rfl⟩
theorem ct_X5_modulus_Shape0 (σ : en_m) (n : Int) (D : Int) (p : Int) (hI : cS0 σ n D p) : en_fn z_X5_modulus [.inr (.inr (r_Shape0, 0))] σ (.inl p) := by
  show en_wp k_X5_modulus 0 [some (.inr (.inr (r_Shape0, 0)))] [] (srl σ []) (fun r σ' => r = some (.inl p) ∧ σ' = σ)
  have hI2 := hI
  obtain ⟨hO, hn, hD, hp, hm, hst, hln⟩ := hI2
  obtain ⟨⟨hO1, hO2⟩, ⟨hO3, hO4⟩, hO5, hO6, hO7, hO8⟩ := id hO
  refine wp_run 2 (pc' := 4) (ls' := [some (.inr (.inr (r_Shape0, 0)))]) (st' := [.inl (σ r_Shape0_prime 0)]) (σ' := srl σ []) rfl ?_
  exact wp_iret rfl ⟨(by rw [hp]), rfl⟩
theorem ct_X5_hasDegree_Shape0 (σ : en_m) (n : Int) (D : Int) (p : Int) (d : Int) (hI : cS0 σ n D p) (h1 : i32 d) : en_fn z_X5_hasDegree [.inr (.inr (r_Shape0, 0)), .inl d] σ (.inl (bI (0 ≤ d ∧ d ≤ D))) := by
  show en_wp k_X5_hasDegree 0 [some (.inr (.inr (r_Shape0, 0))), some (.inl d)] [] (srl σ []) (fun r σ' => r = some (.inl (bI (0 ≤ d ∧ d ≤ D))) ∧ σ' = σ)
  have hI2 := hI
  obtain ⟨hO, hn, hD, hp, hm, hst, hln⟩ := hI2
  obtain ⟨⟨hO1, hO2⟩, ⟨hO3, hO4⟩, hO5, hO6, hO7, hO8⟩ := id hO
  refine wp_run 1 (pc' := 1) (ls' := [some (.inr (.inr (r_Shape0, 0))), some (.inl d)]) (st' := [.inl d]) (σ' := srl σ []) rfl ?_
  refine wp_if_lt rfl (by omega) (fun h_1 => ?_) (fun h_1 => ?_)
  · show en_wp k_X5_hasDegree 16 [some (.inr (.inr (r_Shape0, 0))), some (.inl d)] [] (srl σ []) _
    refine wp_run 1 (pc' := 17) (ls' := [some (.inr (.inr (r_Shape0, 0))), some (.inl d)]) (st' := [.inl 0]) (σ' := srl σ []) rfl ?_
    exact wp_zret rfl (.inl rfl) ⟨(by first | rw [bI_t (by omega)] | rw [bI_f (by omega)]), rfl⟩
  · show en_wp k_X5_hasDegree 4 [some (.inr (.inr (r_Shape0, 0))), some (.inl d)] [] (srl σ []) _
    refine wp_run 3 (pc' := 9) (ls' := [some (.inr (.inr (r_Shape0, 0))), some (.inl d)]) (st' := [.inl (σ r_Shape0_degree 0), .inl d]) (σ' := srl σ []) rfl ?_
    refine wp_ic_gt rfl (by omega) (by omega) (fun h_2 => ?_) (fun h_2 => ?_)
    · show en_wp k_X5_hasDegree 16 [some (.inr (.inr (r_Shape0, 0))), some (.inl d)] [] (srl σ []) _
      refine wp_run 1 (pc' := 17) (ls' := [some (.inr (.inr (r_Shape0, 0))), some (.inl d)]) (st' := [.inl 0]) (σ' := srl σ []) rfl ?_
      exact wp_zret rfl (.inl rfl) ⟨(by first | rw [bI_t (by omega)] | rw [bI_f (by omega)]), rfl⟩
    · show en_wp k_X5_hasDegree 12 [some (.inr (.inr (r_Shape0, 0))), some (.inl d)] [] (srl σ []) _
      refine wp_run 2 (pc' := 17) (ls' := [some (.inr (.inr (r_Shape0, 0))), some (.inl d)]) (st' := [.inl 1]) (σ' := srl σ []) rfl ?_
      exact wp_zret rfl (.inr rfl) ⟨(by first | rw [bI_t (by omega)] | rw [bI_f (by omega)]), rfl⟩
theorem ct_X5_wordsOf_Shape0 (σ : en_m) (n : Int) (D : Int) (p : Int) (d : Int) (hI : cS0 σ n D p) (h1 : i32 d) : en_fn z_X5_wordsOf [.inr (.inr (r_Shape0, 0)), .inl d] σ (.inl (sW n D d)) := by
  show en_wp k_X5_wordsOf 0 [some (.inr (.inr (r_Shape0, 0))), some (.inl d)] [] (srl σ []) (fun r σ' => r = some (.inl (sW n D d)) ∧ σ' = σ)
  have hI2 := hI
  obtain ⟨hO, hn, hD, hp, hm, hst, hln⟩ := hI2
  obtain ⟨⟨hO1, hO2⟩, ⟨hO3, hO4⟩, hO5, hO6, hO7, hO8⟩ := id hO
  refine wp_run 1 (pc' := 1) (ls' := [some (.inr (.inr (r_Shape0, 0))), some (.inl d)]) (st' := [.inl d]) (σ' := srl σ []) rfl ?_
  refine wp_if_lt rfl (by omega) (fun h_1 => ?_) (fun h_1 => ?_)
  · show en_wp k_X5_wordsOf 19 [some (.inr (.inr (r_Shape0, 0))), some (.inl d)] [] (srl σ []) _
    refine wp_run 1 (pc' := 20) (ls' := [some (.inr (.inr (r_Shape0, 0))), some (.inl d)]) (st' := [.inl 0]) (σ' := srl σ []) rfl ?_
    exact wp_iret rfl ⟨(by first | rw [hm d (by omega) (by omega)] | rw [sW_neg (by omega)] | rw [sW_big (by omega)]), rfl⟩
  · show en_wp k_X5_wordsOf 4 [some (.inr (.inr (r_Shape0, 0))), some (.inl d)] [] (srl σ []) _
    refine wp_run 2 (pc' := 7) (ls' := [some (.inr (.inr (r_Shape0, 0))), some (.inl d)]) (st' := [.inl 7, .inl d]) (σ' := srl σ []) rfl ?_
    refine wp_ic_gt rfl (by omega) (by omega) (fun h_2 => ?_) (fun h_2 => ?_)
    · show en_wp k_X5_wordsOf 19 [some (.inr (.inr (r_Shape0, 0))), some (.inl d)] [] (srl σ []) _
      refine wp_run 1 (pc' := 20) (ls' := [some (.inr (.inr (r_Shape0, 0))), some (.inl d)]) (st' := [.inl 0]) (σ' := srl σ []) rfl ?_
      exact wp_iret rfl ⟨(by first | rw [hm d (by omega) (by omega)] | rw [sW_neg (by omega)] | rw [sW_big (by omega)]), rfl⟩
    · show en_wp k_X5_wordsOf 10 [some (.inr (.inr (r_Shape0, 0))), some (.inl d)] [] (srl σ []) _
      refine wp_run 3 (pc' := 15) (ls' := [some (.inr (.inr (r_Shape0, 0))), some (.inl d)]) (st' := [.inl d, .inr (.inr (r_Shape0_many, 0))]) (σ' := srl σ []) rfl ?_
      refine wp_iald0 rfl rfl (by omega) ?_
      show en_wp k_X5_wordsOf 16 [some (.inr (.inr (r_Shape0, 0))), some (.inl d)] [.inl (σ r_Shape0_many d)] (srl σ []) _
      refine wp_run 1 (pc' := 20) (ls' := [some (.inr (.inr (r_Shape0, 0))), some (.inl d)]) (st' := [.inl (σ r_Shape0_many d)]) (σ' := srl σ []) rfl ?_
      exact wp_iret rfl ⟨(by first | rw [hm d (by omega) (by omega)] | rw [sW_neg (by omega)] | rw [sW_big (by omega)]), rfl⟩
theorem ct_X5_startOf_Shape0 (σ : en_m) (n : Int) (D : Int) (p : Int) (d : Int) (hI : cS0 σ n D p) (h1 : i32 d) : en_fn z_X5_startOf [.inr (.inr (r_Shape0, 0)), .inl d] σ (.inl (if 0 ≤ d ∧ d ≤ 7 then sS n D d else 0)) := by
  show en_wp k_X5_startOf 0 [some (.inr (.inr (r_Shape0, 0))), some (.inl d)] [] (srl σ []) (fun r σ' => r = some (.inl (if 0 ≤ d ∧ d ≤ 7 then sS n D d else 0)) ∧ σ' = σ)
  have hI2 := hI
  obtain ⟨hO, hn, hD, hp, hm, hst, hln⟩ := hI2
  obtain ⟨⟨hO1, hO2⟩, ⟨hO3, hO4⟩, hO5, hO6, hO7, hO8⟩ := id hO
  refine wp_run 1 (pc' := 1) (ls' := [some (.inr (.inr (r_Shape0, 0))), some (.inl d)]) (st' := [.inl d]) (σ' := srl σ []) rfl ?_
  refine wp_if_lt rfl (by omega) (fun h_1 => ?_) (fun h_1 => ?_)
  · show en_wp k_X5_startOf 19 [some (.inr (.inr (r_Shape0, 0))), some (.inl d)] [] (srl σ []) _
    refine wp_run 1 (pc' := 20) (ls' := [some (.inr (.inr (r_Shape0, 0))), some (.inl d)]) (st' := [.inl 0]) (σ' := srl σ []) rfl ?_
    exact wp_iret rfl ⟨(by first | rw [hst d (by omega) (by omega), if_pos (by omega)] | rw [if_neg (by omega)]), rfl⟩
  · show en_wp k_X5_startOf 4 [some (.inr (.inr (r_Shape0, 0))), some (.inl d)] [] (srl σ []) _
    refine wp_run 2 (pc' := 7) (ls' := [some (.inr (.inr (r_Shape0, 0))), some (.inl d)]) (st' := [.inl 7, .inl d]) (σ' := srl σ []) rfl ?_
    refine wp_ic_gt rfl (by omega) (by omega) (fun h_2 => ?_) (fun h_2 => ?_)
    · show en_wp k_X5_startOf 19 [some (.inr (.inr (r_Shape0, 0))), some (.inl d)] [] (srl σ []) _
      refine wp_run 1 (pc' := 20) (ls' := [some (.inr (.inr (r_Shape0, 0))), some (.inl d)]) (st' := [.inl 0]) (σ' := srl σ []) rfl ?_
      exact wp_iret rfl ⟨(by first | rw [hst d (by omega) (by omega), if_pos (by omega)] | rw [if_neg (by omega)]), rfl⟩
    · show en_wp k_X5_startOf 10 [some (.inr (.inr (r_Shape0, 0))), some (.inl d)] [] (srl σ []) _
      refine wp_run 3 (pc' := 15) (ls' := [some (.inr (.inr (r_Shape0, 0))), some (.inl d)]) (st' := [.inl d, .inr (.inr (r_Shape0_start, 0))]) (σ' := srl σ []) rfl ?_
      refine wp_iald0 rfl rfl (by omega) ?_
      show en_wp k_X5_startOf 16 [some (.inr (.inr (r_Shape0, 0))), some (.inl d)] [.inl (σ r_Shape0_start d)] (srl σ []) _
      refine wp_run 1 (pc' := 20) (ls' := [some (.inr (.inr (r_Shape0, 0))), some (.inl d)]) (st' := [.inl (σ r_Shape0_start d)]) (σ' := srl σ []) rfl ?_
      exact wp_iret rfl ⟨(by first | rw [hst d (by omega) (by omega), if_pos (by omega)] | rw [if_neg (by omega)]), rfl⟩
theorem ct_X5_wordsInAll_Shape0 (σ : en_m) (n : Int) (D : Int) (p : Int) (hI : cS0 σ n D p) : en_fn z_X5_wordsInAll [.inr (.inr (r_Shape0, 0))] σ (.inl (sS n D (D + 1))) := by
  show en_wp k_X5_wordsInAll 0 [some (.inr (.inr (r_Shape0, 0)))] [] (srl σ []) (fun r σ' => r = some (.inl (sS n D (D + 1))) ∧ σ' = σ)
  have hI2 := hI
  obtain ⟨hO, hn, hD, hp, hm, hst, hln⟩ := hI2
  obtain ⟨⟨hO1, hO2⟩, ⟨hO3, hO4⟩, hO5, hO6, hO7, hO8⟩ := id hO
  refine wp_run 3 (pc' := 6) (ls' := [some (.inr (.inr (r_Shape0, 0)))]) (st' := [.inl 8, .inr (.inr (r_Shape0_start, 0))]) (σ' := srl σ []) rfl ?_
  refine wp_iald0 rfl rfl (by omega) ?_
  show en_wp k_X5_wordsInAll 7 [some (.inr (.inr (r_Shape0, 0)))] [.inl (σ r_Shape0_start 8)] (srl σ []) _
  exact wp_iret rfl ⟨(by rw [hst 8 (by omega) (by omega), sS_8 hO]), rfl⟩
theorem ct_X5_indexOf_Shape0 (σ : en_m) (n : Int) (D : Int) (p : Int) (w : Int) (hI : cS0 σ n D p) (h1 : i32 w) : en_fn z_X5_indexOf [.inr (.inr (r_Shape0, 0)), .inl w] σ (.inl (sAt n D w)) := by
  show en_wp k_X5_indexOf 0 [some (.inr (.inr (r_Shape0, 0))), some (.inl w), none, none] [] (srl σ []) (fun r σ' => r = some (.inl (sAt n D w)) ∧ σ' = σ)
  have hI2 := hI
  obtain ⟨hO, hn, hD, hp, hm, hst, hln⟩ := hI2
  obtain ⟨⟨hO1, hO2⟩, ⟨hO3, hO4⟩, hO5, hO6, hO7, hO8⟩ := id hO
  have hx0 : 0 ≤ w → 0 ≤ w / 1000 ∧ 0 ≤ w % 1000 := fun _ => by omega
  refine wp_run 1 (pc' := 1) (ls' := [some (.inr (.inr (r_Shape0, 0))), some (.inl w), none, none]) (st' := [.inl w]) (σ' := srl σ []) rfl ?_
  refine wp_if_ge rfl (by omega) (fun h_1 => ?_) (fun h_1 => ?_)
  · show en_wp k_X5_indexOf 6 [some (.inr (.inr (r_Shape0, 0))), some (.inl w), none, none] [] (srl σ []) _
    refine wp_run 2 (pc' := 10) (ls' := [some (.inr (.inr (r_Shape0, 0))), some (.inl w), none, none]) (st' := [.inl 1000, .inl w]) (σ' := srl σ []) rfl ?_
    refine wp_idivp rfl (by omega) (by omega) ?_
    show en_wp k_X5_indexOf 11 [some (.inr (.inr (r_Shape0, 0))), some (.inl w), none, none] [.inl (w / 1000)] (srl σ []) _
    refine wp_run 3 (pc' := 16) (ls' := [some (.inr (.inr (r_Shape0, 0))), some (.inl w), some (.inl (w / 1000)), none]) (st' := [.inl 1000, .inl w]) (σ' := srl σ []) rfl ?_
    refine wp_iremp rfl (by omega) (by omega) ?_
    show en_wp k_X5_indexOf 17 [some (.inr (.inr (r_Shape0, 0))), some (.inl w), some (.inl (w / 1000)), none] [.inl (w % 1000)] (srl σ []) _
    refine wp_run 4 (pc' := 21) (ls' := [some (.inr (.inr (r_Shape0, 0))), some (.inl w), some (.inl (w / 1000)), some (.inl (w % 1000))]) (st' := [.inl (w / 1000), .inr (.inr (r_Shape0, 0)), .inl (w % 1000)]) (σ' := srl σ []) rfl ?_
    refine wp_fnv (v := .inl (sW n D (w / 1000))) rfl rfl rfl rfl (ct_X5_wordsOf_Shape0 σ n D p (w / 1000) hI (by omega)) ?_
    show en_wp k_X5_indexOf 24 [some (.inr (.inr (r_Shape0, 0))), some (.inl w), some (.inl (w / 1000)), some (.inl (w % 1000))] [.inl (sW n D (w / 1000)), .inl (w % 1000)] (srl σ []) _
    have q_2 : 0 ≤ sW n D (w / 1000) ∧ sW n D (w / 1000) ≤ 256 := sW_b hO
    refine wp_ic_ge rfl (by omega) (by omega) (fun h_3 => ?_) (fun h_3 => ?_)
    · show en_wp k_X5_indexOf 38 [some (.inr (.inr (r_Shape0, 0))), some (.inl w), some (.inl (w / 1000)), some (.inl (w % 1000))] [] (srl σ []) _
      refine wp_run 1 (pc' := 39) (ls' := [some (.inr (.inr (r_Shape0, 0))), some (.inl w), some (.inl (w / 1000)), some (.inl (w % 1000))]) (st' := [.inl (-1)]) (σ' := srl σ []) rfl ?_
      exact wp_iret rfl ⟨(by first | (rw [hst (w / 1000) (by omega) (by omega), sAt, if_pos (by omega)]) | (rw [sAt, if_neg (by omega)])), rfl⟩
    · show en_wp k_X5_indexOf 27 [some (.inr (.inr (r_Shape0, 0))), some (.inl w), some (.inl (w / 1000)), some (.inl (w % 1000))] [] (srl σ []) _
      refine wp_run 3 (pc' := 32) (ls' := [some (.inr (.inr (r_Shape0, 0))), some (.inl w), some (.inl (w / 1000)), some (.inl (w % 1000))]) (st' := [.inl (w / 1000), .inr (.inr (r_Shape0_start, 0))]) (σ' := srl σ []) rfl ?_
      have hle : w / 1000 ≤ D := by
        rcases Int.lt_or_le D (w / 1000) with h9 | h9
        · have h10 := @sW_big n D (w / 1000) h9
          omega
        · exact h9
      refine wp_iald0 rfl rfl (by omega) ?_
      show en_wp k_X5_indexOf 33 [some (.inr (.inr (r_Shape0, 0))), some (.inl w), some (.inl (w / 1000)), some (.inl (w % 1000))] [.inl (σ r_Shape0_start (w / 1000))] (srl σ []) _
      refine wp_run 3 (pc' := 39) (ls' := [some (.inr (.inr (r_Shape0, 0))), some (.inl w), some (.inl (w / 1000)), some (.inl (w % 1000))]) (st' := [.inl ((σ r_Shape0_start (w / 1000)) + (w % 1000))]) (σ' := srl σ []) rfl ?_
      exact wp_iret rfl ⟨(by first | (rw [hst (w / 1000) (by omega) (by omega), sAt, if_pos (by omega)]) | (rw [sAt, if_neg (by omega)])), rfl⟩
  · show en_wp k_X5_indexOf 4 [some (.inr (.inr (r_Shape0, 0))), some (.inl w), none, none] [] (srl σ []) _
    refine wp_run 1 (pc' := 5) (ls' := [some (.inr (.inr (r_Shape0, 0))), some (.inl w), none, none]) (st' := [.inl (-1)]) (σ' := srl σ []) rfl ?_
    exact wp_iret rfl ⟨(by first | (rw [hst (w / 1000) (by omega) (by omega), sAt, if_pos (by omega)]) | (rw [sAt, if_neg (by omega)])), rfl⟩
theorem ct_X5_lengthAt_Shape0 (σ : en_m) (n : Int) (D : Int) (p : Int) (x : Int) (hI : cS0 σ n D p) (h1 : 0 ≤ x ∧ x < sS n D (D + 1)) : en_fn z_X5_lengthAt [.inr (.inr (r_Shape0, 0)), .inl x] σ (.inl (sL n D x)) := by
  show en_wp k_X5_lengthAt 0 [some (.inr (.inr (r_Shape0, 0))), some (.inl x)] [] (srl σ []) (fun r σ' => r = some (.inl (sL n D x)) ∧ σ' = σ)
  have hI2 := hI
  obtain ⟨hO, hn, hD, hp, hm, hst, hln⟩ := hI2
  obtain ⟨⟨hO1, hO2⟩, ⟨hO3, hO4⟩, hO5, hO6, hO7, hO8⟩ := id hO
  have hSb := sS_b (k := D + 1) hO
  refine wp_run 1 (pc' := 1) (ls' := [some (.inr (.inr (r_Shape0, 0))), some (.inl x)]) (st' := [.inl x]) (σ' := srl σ []) rfl ?_
  refine wp_if_lt rfl (by omega) (fun h_1 => ?_) (fun h_1 => ?_)
  · show en_wp k_X5_lengthAt 20 [some (.inr (.inr (r_Shape0, 0))), some (.inl x)] [] (srl σ []) _
    refine wp_run 1 (pc' := 21) (ls' := [some (.inr (.inr (r_Shape0, 0))), some (.inl x)]) (st' := [.inl 0]) (σ' := srl σ []) rfl ?_
    exact wp_iret rfl ⟨(by first | rw [hln x (by omega) (by omega)] | (exfalso; omega)), rfl⟩
  · show en_wp k_X5_lengthAt 4 [some (.inr (.inr (r_Shape0, 0))), some (.inl x)] [] (srl σ []) _
    refine wp_run 2 (pc' := 8) (ls' := [some (.inr (.inr (r_Shape0, 0))), some (.inl x)]) (st' := [.inl 364, .inl x]) (σ' := srl σ []) rfl ?_
    refine wp_ic_ge rfl (by omega) (by omega) (fun h_2 => ?_) (fun h_2 => ?_)
    · show en_wp k_X5_lengthAt 20 [some (.inr (.inr (r_Shape0, 0))), some (.inl x)] [] (srl σ []) _
      refine wp_run 1 (pc' := 21) (ls' := [some (.inr (.inr (r_Shape0, 0))), some (.inl x)]) (st' := [.inl 0]) (σ' := srl σ []) rfl ?_
      exact wp_iret rfl ⟨(by first | rw [hln x (by omega) (by omega)] | (exfalso; omega)), rfl⟩
    · show en_wp k_X5_lengthAt 11 [some (.inr (.inr (r_Shape0, 0))), some (.inl x)] [] (srl σ []) _
      refine wp_run 3 (pc' := 16) (ls' := [some (.inr (.inr (r_Shape0, 0))), some (.inl x)]) (st' := [.inl x, .inr (.inr (r_Shape0_lengths, 0))]) (σ' := srl σ []) rfl ?_
      refine wp_iald0 rfl rfl (by omega) ?_
      show en_wp k_X5_lengthAt 17 [some (.inr (.inr (r_Shape0, 0))), some (.inl x)] [.inl (σ r_Shape0_lengths x)] (srl σ []) _
      refine wp_run 1 (pc' := 21) (ls' := [some (.inr (.inr (r_Shape0, 0))), some (.inl x)]) (st' := [.inl (σ r_Shape0_lengths x)]) (σ' := srl σ []) rfl ?_
      exact wp_iret rfl ⟨(by first | rw [hln x (by omega) (by omega)] | (exfalso; omega)), rfl⟩
theorem ct_X5_numberAt_Shape0 (σ : en_m) (n : Int) (D : Int) (p : Int) (x : Int) (hI : cS0 σ n D p) (h1 : 0 ≤ x ∧ x < sS n D (D + 1)) : en_fn z_X5_numberAt [.inr (.inr (r_Shape0, 0)), .inl x] σ (.inl (x - sS n D (sL n D x))) := by
  show en_wp k_X5_numberAt 0 [some (.inr (.inr (r_Shape0, 0))), some (.inl x)] [] (srl σ []) (fun r σ' => r = some (.inl (x - sS n D (sL n D x))) ∧ σ' = σ)
  have hI2 := hI
  obtain ⟨hO, hn, hD, hp, hm, hst, hln⟩ := hI2
  obtain ⟨⟨hO1, hO2⟩, ⟨hO3, hO4⟩, hO5, hO6, hO7, hO8⟩ := id hO
  have hSb := sS_b (k := D + 1) hO
  have hLb := sL_b n D x
  refine wp_run 4 (pc' := 4) (ls' := [some (.inr (.inr (r_Shape0, 0))), some (.inl x)]) (st' := [.inl x, .inr (.inr (r_Shape0, 0)), .inr (.inr (r_Shape0, 0)), .inl x]) (σ' := srl σ []) rfl ?_
  refine wp_fnv (v := .inl (sL n D x)) rfl rfl rfl rfl (ct_X5_lengthAt_Shape0 σ n D p x hI (by omega)) ?_
  show en_wp k_X5_numberAt 7 [some (.inr (.inr (r_Shape0, 0))), some (.inl x)] [.inl (sL n D x), .inr (.inr (r_Shape0, 0)), .inl x] (srl σ []) _
  have q_1 : 0 ≤ sL n D x ∧ sL n D x ≤ 7 := sL_b _ _ _
  refine wp_fnv (v := .inl (if 0 ≤ (sL n D x) ∧ (sL n D x) ≤ 7 then sS n D (sL n D x) else 0)) rfl rfl rfl rfl (ct_X5_startOf_Shape0 σ n D p (sL n D x) hI (by omega)) ?_
  show en_wp k_X5_numberAt 10 [some (.inr (.inr (r_Shape0, 0))), some (.inl x)] [.inl (if 0 ≤ (sL n D x) ∧ (sL n D x) ≤ 7 then sS n D (sL n D x) else 0), .inl x] (srl σ []) _
  have q_2 : 0 ≤ (if 0 ≤ (sL n D x) ∧ (sL n D x) ≤ 7 then sS n D (sL n D x) else 0) ∧ (if 0 ≤ (sL n D x) ∧ (sL n D x) ≤ 7 then sS n D (sL n D x) else 0) ≤ 364 := sS_ib hO
  refine wp_run 1 (pc' := 11) (ls' := [some (.inr (.inr (r_Shape0, 0))), some (.inl x)]) (st' := [.inl (x - (if 0 ≤ (sL n D x) ∧ (sL n D x) ≤ 7 then sS n D (sL n D x) else 0))]) (σ' := srl σ []) rfl ?_
  exact wp_iret rfl ⟨(by rw [if_pos (by omega)]), rfl⟩
theorem ct_X5_codeAt_Shape0 (σ : en_m) (n : Int) (D : Int) (p : Int) (x : Int) (hI : cS0 σ n D p) (h1 : 0 ≤ x ∧ x < sS n D (D + 1)) : en_fn z_X5_codeAt [.inr (.inr (r_Shape0, 0)), .inl x] σ (.inl (1000 * sL n D x + (x - sS n D (sL n D x)))) := by
  show en_wp k_X5_codeAt 0 [some (.inr (.inr (r_Shape0, 0))), some (.inl x)] [] (srl σ []) (fun r σ' => r = some (.inl (1000 * sL n D x + (x - sS n D (sL n D x)))) ∧ σ' = σ)
  have hI2 := hI
  obtain ⟨hO, hn, hD, hp, hm, hst, hln⟩ := hI2
  obtain ⟨⟨hO1, hO2⟩, ⟨hO3, hO4⟩, hO5, hO6, hO7, hO8⟩ := id hO
  refine wp_run 3 (pc' := 5) (ls' := [some (.inr (.inr (r_Shape0, 0))), some (.inl x)]) (st' := [.inl x, .inr (.inr (r_Shape0, 0)), .inl 1000]) (σ' := srl σ []) rfl ?_
  refine wp_fnv (v := .inl (sL n D x)) rfl rfl rfl rfl (ct_X5_lengthAt_Shape0 σ n D p x hI (by omega)) ?_
  show en_wp k_X5_codeAt 8 [some (.inr (.inr (r_Shape0, 0))), some (.inl x)] [.inl (sL n D x), .inl 1000] (srl σ []) _
  have q_1 : 0 ≤ sL n D x ∧ sL n D x ≤ 7 := sL_b _ _ _
  refine wp_run 3 (pc' := 11) (ls' := [some (.inr (.inr (r_Shape0, 0))), some (.inl x)]) (st' := [.inl x, .inr (.inr (r_Shape0, 0)), .inl (1000 * (sL n D x))]) (σ' := srl σ []) rfl ?_
  refine wp_fnv (v := .inl (x - sS n D (sL n D x))) rfl rfl rfl rfl (ct_X5_numberAt_Shape0 σ n D p x hI (by omega)) ?_
  show en_wp k_X5_codeAt 14 [some (.inr (.inr (r_Shape0, 0))), some (.inl x)] [.inl (x - sS n D (sL n D x)), .inl (1000 * (sL n D x))] (srl σ []) _
  refine wp_run 1 (pc' := 15) (ls' := [some (.inr (.inr (r_Shape0, 0))), some (.inl x)]) (st' := [.inl ((1000 * (sL n D x)) + (x - sS n D (sL n D x)))]) (σ' := srl σ []) rfl ?_
  exact wp_iret rfl ⟨rfl, rfl⟩
theorem ct_X5_join_Shape0 (σ : en_m) (n : Int) (D : Int) (p : Int) (a : Int) (b : Int) (d : Int) (hI : cS0 σ n D p) (h1 : i32 d) : en_fn z_X5_join [.inr (.inr (r_Shape0, 0)), .inl a, .inl b, .inl d] σ (.inl (a * sW n D d + b)) := by
  show en_wp k_X5_join 0 [some (.inr (.inr (r_Shape0, 0))), some (.inl a), some (.inl b), some (.inl d)] [] (srl σ []) (fun r σ' => r = some (.inl (a * sW n D d + b)) ∧ σ' = σ)
  have hI2 := hI
  obtain ⟨hO, hn, hD, hp, hm, hst, hln⟩ := hI2
  obtain ⟨⟨hO1, hO2⟩, ⟨hO3, hO4⟩, hO5, hO6, hO7, hO8⟩ := id hO
  refine wp_run 3 (pc' := 3) (ls' := [some (.inr (.inr (r_Shape0, 0))), some (.inl a), some (.inl b), some (.inl d)]) (st' := [.inl d, .inr (.inr (r_Shape0, 0)), .inl a]) (σ' := srl σ []) rfl ?_
  refine wp_fnv (v := .inl (sW n D d)) rfl rfl rfl rfl (ct_X5_wordsOf_Shape0 σ n D p d hI (by omega)) ?_
  show en_wp k_X5_join 6 [some (.inr (.inr (r_Shape0, 0))), some (.inl a), some (.inl b), some (.inl d)] [.inl (sW n D d), .inl a] (srl σ []) _
  have q_1 : 0 ≤ sW n D d ∧ sW n D d ≤ 256 := sW_b hO
  refine wp_run 3 (pc' := 9) (ls' := [some (.inr (.inr (r_Shape0, 0))), some (.inl a), some (.inl b), some (.inl d)]) (st' := [.inl ((a * (sW n D d)) + b)]) (σ' := srl σ []) rfl ?_
  exact wp_iret rfl ⟨rfl, rfl⟩
theorem ct_X5_tailOf_Shape0 (σ : en_m) (n : Int) (D : Int) (p : Int) (x : Int) (d : Int) (hI : cS0 σ n D p) (h1 : i32 d) (h2 : 0 ≤ x ∧ x ≤ 2147483647) : en_fn z_X5_tailOf [.inr (.inr (r_Shape0, 0)), .inl x, .inl d] σ (.inl (if 0 < sW n D d then x % sW n D d else 0)) := by
  show en_wp k_X5_tailOf 0 [some (.inr (.inr (r_Shape0, 0))), some (.inl x), some (.inl d), none] [] (srl σ []) (fun r σ' => r = some (.inl (if 0 < sW n D d then x % sW n D d else 0)) ∧ σ' = σ)
  have hI2 := hI
  obtain ⟨hO, hn, hD, hp, hm, hst, hln⟩ := hI2
  obtain ⟨⟨hO1, hO2⟩, ⟨hO3, hO4⟩, hO5, hO6, hO7, hO8⟩ := id hO
  refine wp_run 2 (pc' := 2) (ls' := [some (.inr (.inr (r_Shape0, 0))), some (.inl x), some (.inl d), none]) (st' := [.inl d, .inr (.inr (r_Shape0, 0))]) (σ' := srl σ []) rfl ?_
  refine wp_fnv (v := .inl (sW n D d)) rfl rfl rfl rfl (ct_X5_wordsOf_Shape0 σ n D p d hI (by omega)) ?_
  show en_wp k_X5_tailOf 5 [some (.inr (.inr (r_Shape0, 0))), some (.inl x), some (.inl d), none] [.inl (sW n D d)] (srl σ []) _
  have q_1 : 0 ≤ sW n D d ∧ sW n D d ≤ 256 := sW_b hO
  refine wp_run 2 (pc' := 7) (ls' := [some (.inr (.inr (r_Shape0, 0))), some (.inl x), some (.inl d), some (.inl (sW n D d))]) (st' := [.inl (sW n D d)]) (σ' := srl σ []) rfl ?_
  refine wp_if_le rfl (by omega) (fun h_2 => ?_) (fun h_2 => ?_)
  · show en_wp k_X5_tailOf 16 [some (.inr (.inr (r_Shape0, 0))), some (.inl x), some (.inl d), some (.inl (sW n D d))] [] (srl σ []) _
    refine wp_run 1 (pc' := 17) (ls' := [some (.inr (.inr (r_Shape0, 0))), some (.inl x), some (.inl d), some (.inl (sW n D d))]) (st' := [.inl 0]) (σ' := srl σ []) rfl ?_
    exact wp_iret rfl ⟨(by repeat (first | rfl | rw [if_pos (by omega)] | rw [if_neg (by omega)])), rfl⟩
  · show en_wp k_X5_tailOf 10 [some (.inr (.inr (r_Shape0, 0))), some (.inl x), some (.inl d), some (.inl (sW n D d))] [] (srl σ []) _
    refine wp_run 2 (pc' := 12) (ls' := [some (.inr (.inr (r_Shape0, 0))), some (.inl x), some (.inl d), some (.inl (sW n D d))]) (st' := [.inl (sW n D d), .inl x]) (σ' := srl σ []) rfl ?_
    refine wp_iremp rfl (by omega) (by omega) ?_
    show en_wp k_X5_tailOf 13 [some (.inr (.inr (r_Shape0, 0))), some (.inl x), some (.inl d), some (.inl (sW n D d))] [.inl (x % (sW n D d))] (srl σ []) _
    refine wp_run 1 (pc' := 17) (ls' := [some (.inr (.inr (r_Shape0, 0))), some (.inl x), some (.inl d), some (.inl (sW n D d))]) (st' := [.inl (x % (sW n D d))]) (σ' := srl σ []) rfl ?_
    exact wp_iret rfl ⟨(by repeat (first | rfl | rw [if_pos (by omega)] | rw [if_neg (by omega)])), rfl⟩
theorem ct_X5_headOf_Shape0 (σ : en_m) (n : Int) (D : Int) (p : Int) (x : Int) (d : Int) (hI : cS0 σ n D p) (h1 : i32 d) (h2 : 0 ≤ x ∧ x ≤ 2147483647) : en_fn z_X5_headOf [.inr (.inr (r_Shape0, 0)), .inl x, .inl d] σ (.inl (if 0 < sW n D d then x / sW n D d else 0)) := by
  show en_wp k_X5_headOf 0 [some (.inr (.inr (r_Shape0, 0))), some (.inl x), some (.inl d), none] [] (srl σ []) (fun r σ' => r = some (.inl (if 0 < sW n D d then x / sW n D d else 0)) ∧ σ' = σ)
  have hI2 := hI
  obtain ⟨hO, hn, hD, hp, hm, hst, hln⟩ := hI2
  obtain ⟨⟨hO1, hO2⟩, ⟨hO3, hO4⟩, hO5, hO6, hO7, hO8⟩ := id hO
  refine wp_run 2 (pc' := 2) (ls' := [some (.inr (.inr (r_Shape0, 0))), some (.inl x), some (.inl d), none]) (st' := [.inl d, .inr (.inr (r_Shape0, 0))]) (σ' := srl σ []) rfl ?_
  refine wp_fnv (v := .inl (sW n D d)) rfl rfl rfl rfl (ct_X5_wordsOf_Shape0 σ n D p d hI (by omega)) ?_
  show en_wp k_X5_headOf 5 [some (.inr (.inr (r_Shape0, 0))), some (.inl x), some (.inl d), none] [.inl (sW n D d)] (srl σ []) _
  have q_1 : 0 ≤ sW n D d ∧ sW n D d ≤ 256 := sW_b hO
  refine wp_run 2 (pc' := 7) (ls' := [some (.inr (.inr (r_Shape0, 0))), some (.inl x), some (.inl d), some (.inl (sW n D d))]) (st' := [.inl (sW n D d)]) (σ' := srl σ []) rfl ?_
  refine wp_if_le rfl (by omega) (fun h_2 => ?_) (fun h_2 => ?_)
  · show en_wp k_X5_headOf 16 [some (.inr (.inr (r_Shape0, 0))), some (.inl x), some (.inl d), some (.inl (sW n D d))] [] (srl σ []) _
    refine wp_run 1 (pc' := 17) (ls' := [some (.inr (.inr (r_Shape0, 0))), some (.inl x), some (.inl d), some (.inl (sW n D d))]) (st' := [.inl 0]) (σ' := srl σ []) rfl ?_
    exact wp_iret rfl ⟨(by repeat (first | rfl | rw [if_pos (by omega)] | rw [if_neg (by omega)])), rfl⟩
  · show en_wp k_X5_headOf 10 [some (.inr (.inr (r_Shape0, 0))), some (.inl x), some (.inl d), some (.inl (sW n D d))] [] (srl σ []) _
    refine wp_run 2 (pc' := 12) (ls' := [some (.inr (.inr (r_Shape0, 0))), some (.inl x), some (.inl d), some (.inl (sW n D d))]) (st' := [.inl (sW n D d), .inl x]) (σ' := srl σ []) rfl ?_
    refine wp_idivp rfl (by omega) (by omega) ?_
    show en_wp k_X5_headOf 13 [some (.inr (.inr (r_Shape0, 0))), some (.inl x), some (.inl d), some (.inl (sW n D d))] [.inl (x / (sW n D d))] (srl σ []) _
    refine wp_run 1 (pc' := 17) (ls' := [some (.inr (.inr (r_Shape0, 0))), some (.inl x), some (.inl d), some (.inl (sW n D d))]) (st' := [.inl (x / (sW n D d))]) (σ' := srl σ []) rfl ?_
    exact wp_iret rfl ⟨(by repeat (first | rfl | rw [if_pos (by omega)] | rw [if_neg (by omega)])), rfl⟩
theorem ct_X5_rest_Shape0 (σ : en_m) (n : Int) (D : Int) (p : Int) (v : Int) (hI : cS0 σ n D p) (h1 : i32 v) : en_fn z_X5_rest [.inr (.inr (r_Shape0, 0)), .inl v] σ (.inl (v % p)) := by
  show en_wp k_X5_rest 0 [some (.inr (.inr (r_Shape0, 0))), some (.inl v), none] [] (srl σ []) (fun r σ' => r = some (.inl (v % p)) ∧ σ' = σ)
  have hI2 := hI
  obtain ⟨hO, hn, hD, hp, hm, hst, hln⟩ := hI2
  obtain ⟨⟨hO1, hO2⟩, ⟨hO3, hO4⟩, hO5, hO6, hO7, hO8⟩ := id hO
  have hp0 : 0 < σ r_Shape0_prime 0 := by omega
  have hb := sR_tb (v := v) hp0
  refine wp_run 3 (pc' := 5) (ls' := [some (.inr (.inr (r_Shape0, 0))), some (.inl v), none]) (st' := [.inl 1, .inl (σ r_Shape0_prime 0)]) (σ' := srl σ []) rfl ?_
  refine wp_ic_le rfl (by omega) (by omega) (fun h_1 => ?_) (fun h_1 => ?_)
  · show en_wp k_X5_rest 17 [some (.inr (.inr (r_Shape0, 0))), some (.inl v), none] [] (srl σ []) _
    refine wp_run 5 (pc' := 33) (ls' := [some (.inr (.inr (r_Shape0, 0))), some (.inl v), some (.inl 0)]) (st' := [.inl 0]) (σ' := srl σ []) rfl ?_
    exact wp_iret rfl ⟨(by first | rw [sR_n hp0 (by assumption), hp] | rw [sR_p hp0 (by assumption), hp] | (exfalso; omega)), rfl⟩
  · show en_wp k_X5_rest 8 [some (.inr (.inr (r_Shape0, 0))), some (.inl v), none] [] (srl σ []) _
    refine wp_run 3 (pc' := 13) (ls' := [some (.inr (.inr (r_Shape0, 0))), some (.inl v), none]) (st' := [.inl (σ r_Shape0_prime 0), .inl v]) (σ' := srl σ []) rfl ?_
    refine wp_irem rfl (by omega) (by omega) (by omega) ?_
    show en_wp k_X5_rest 14 [some (.inr (.inr (r_Shape0, 0))), some (.inl v), none] [.inl (v.tmod (σ r_Shape0_prime 0))] (srl σ []) _
    refine wp_run 3 (pc' := 20) (ls' := [some (.inr (.inr (r_Shape0, 0))), some (.inl v), some (.inl (v.tmod (σ r_Shape0_prime 0)))]) (st' := [.inl (v.tmod (σ r_Shape0_prime 0))]) (σ' := srl σ []) rfl ?_
    refine wp_if_ge rfl (by omega) (fun h_2 => ?_) (fun h_2 => ?_)
    · show en_wp k_X5_rest 32 [some (.inr (.inr (r_Shape0, 0))), some (.inl v), some (.inl (v.tmod (σ r_Shape0_prime 0)))] [] (srl σ []) _
      refine wp_run 1 (pc' := 33) (ls' := [some (.inr (.inr (r_Shape0, 0))), some (.inl v), some (.inl (v.tmod (σ r_Shape0_prime 0)))]) (st' := [.inl (v.tmod (σ r_Shape0_prime 0))]) (σ' := srl σ []) rfl ?_
      exact wp_iret rfl ⟨(by first | rw [sR_n hp0 (by assumption), hp] | rw [sR_p hp0 (by assumption), hp] | (exfalso; omega)), rfl⟩
    · show en_wp k_X5_rest 23 [some (.inr (.inr (r_Shape0, 0))), some (.inl v), some (.inl (v.tmod (σ r_Shape0_prime 0)))] [] (srl σ []) _
      refine wp_run 5 (pc' := 33) (ls' := [some (.inr (.inr (r_Shape0, 0))), some (.inl v), some (.inl (v.tmod (σ r_Shape0_prime 0)))]) (st' := [.inl ((v.tmod (σ r_Shape0_prime 0)) + (σ r_Shape0_prime 0))]) (σ' := srl σ []) rfl ?_
      exact wp_iret rfl ⟨(by first | rw [sR_n hp0 (by assumption), hp] | rw [sR_p hp0 (by assumption), hp] | (exfalso; omega)), rfl⟩
theorem ct_X5_inverseOf_Shape0 (σ : en_m) (n : Int) (D : Int) (p : Int) (v : Int) (hI : cS0 σ n D p) (h1 : 1 ≤ v ∧ v < p) : en_ct z_X5_inverseOf [.inr (.inr (r_Shape0, 0)), .inl v] σ (fun r σ' => ∃ (rr : Int), r = some (.inl rr) ∧ σ' = srl σ [] ∧ (1 ≤ rr ∧ rr < p ∧ (rr * v) % p = 1)) := by
  show en_wp k_X5_inverseOf 0 [some (.inr (.inr (r_Shape0, 0))), some (.inl v), none] [] (srl σ []) (fun r σ' => ∃ (rr : Int), r = some (.inl rr) ∧ σ' = srl σ [] ∧ (1 ≤ rr ∧ rr < p ∧ (rr * v) % p = 1))
  have hI2 := hI
  obtain ⟨hO, hn, hD, hp, hm, hst, hln⟩ := hI2
  obtain ⟨⟨hO1, hO2⟩, ⟨hO3, hO4⟩, hO5, hO6, hO7, hO8⟩ := id hO
  have L_2 : ∀ (N : Nat) (k : Int), (1 ≤ k ∧ k ≤ p) → (∀ j, 1 ≤ j → j < k → ¬ (j * v) % p = 1) → (p - k).toNat < N → en_wp k_X5_inverseOf 2 [some (.inr (.inr (r_Shape0, 0))), some (.inl v), some (.inl k)] [] (srl σ []) (fun r σ' => ∃ (rr : Int), r = some (.inl rr) ∧ σ' = srl σ [] ∧ (1 ≤ rr ∧ rr < p ∧ (rr * v) % p = 1)) := by
    intro N
    induction N with
    | zero => intro k; intros; omega
    | succ N ih_2 =>
      intro k hk hno hN_2
      refine wp_run 3 (pc' := 7) (ls' := [some (.inr (.inr (r_Shape0, 0))), some (.inl v), some (.inl k)]) (st' := [.inl (σ r_Shape0_prime 0), .inl k]) (σ' := srl σ []) rfl ?_
      refine wp_ic_ge rfl (by rw [hp] at *; omega) (by rw [hp] at *; omega) (fun h_1 => ?_) (fun h_1 => ?_)
      · rw [hp] at h_1
        obtain ⟨i, h7, h8, h9⟩ := pr_inv hO.2.2.2 h1.1 h1.2
        exact absurd h9 (hno i h7 (by omega))
      · rw [hp] at h_1
        show en_wp k_X5_inverseOf 10 [some (.inr (.inr (r_Shape0, 0))), some (.inl v), some (.inl k)] [] (srl σ []) _
        refine wp_run 4 (pc' := 14) (ls' := [some (.inr (.inr (r_Shape0, 0))), some (.inl v), some (.inl k)]) (st' := [.inl (k * v), .inr (.inr (r_Shape0, 0))]) (σ' := srl σ []) rfl ?_
        have hm1 := m97 (a := k) (b := v) (by omega) (by omega)
        refine wp_fnv (v := .inl ((k * v) % p)) rfl rfl rfl rfl (ct_X5_rest_Shape0 σ n D p (k * v) hI (by omega)) ?_
        show en_wp k_X5_inverseOf 17 [some (.inr (.inr (r_Shape0, 0))), some (.inl v), some (.inl k)] [.inl ((k * v) % p)] (srl σ []) _
        have q_2 : 0 ≤ (k * v) % p ∧ (k * v) % p < p := sR_lt hO.2.2.2
        refine wp_run 1 (pc' := 18) (ls' := [some (.inr (.inr (r_Shape0, 0))), some (.inl v), some (.inl k)]) (st' := [.inl 1, .inl ((k * v) % p)]) (σ' := srl σ []) rfl ?_
        refine wp_ic_ne rfl (by omega) (by omega) (fun h_3 => ?_) (fun h_3 => ?_)
        · show en_wp k_X5_inverseOf 23 [some (.inr (.inr (r_Shape0, 0))), some (.inl v), some (.inl k)] [] (srl σ []) _
          refine wp_run 2 (pc' := 2) (ls' := [some (.inr (.inr (r_Shape0, 0))), some (.inl v), some (.inl (k + 1))]) (st' := []) (σ' := srl σ []) rfl ?_
          exact ih_2 (k + 1) (by omega) (by intro j h2 h3; rcases Int.lt_or_eq_of_le (show j ≤ k by omega) with h9 | h9 <;> first | exact hno j h2 h9 | (rw [h9]; assumption)) (by omega)
        · show en_wp k_X5_inverseOf 21 [some (.inr (.inr (r_Shape0, 0))), some (.inl v), some (.inl k)] [] (srl σ []) _
          refine wp_run 1 (pc' := 22) (ls' := [some (.inr (.inr (r_Shape0, 0))), some (.inl v), some (.inl k)]) (st' := [.inl k]) (σ' := srl σ []) rfl ?_
          exact wp_iret rfl ⟨k, rfl, srl_eq (l' := []) trivial trivial, ⟨by omega, by omega, by assumption⟩⟩
  refine wp_run 2 (pc' := 2) (ls' := [some (.inr (.inr (r_Shape0, 0))), some (.inl v), some (.inl 1)]) (st' := []) (σ' := srl σ []) rfl ?_
  exact L_2 _ 1 (by omega) (by intro j h2 h3; omega) (Nat.lt_succ_self _)
theorem ct_X5_lettersTold_Shape1 (σ : en_m) (n : Int) (D : Int) (p : Int) (hI : cS1 σ n D p) : en_fn z_X5_lettersTold [.inr (.inr (r_Shape1, 0))] σ (.inl n) := by
  show en_wp k_X5_lettersTold 0 [some (.inr (.inr (r_Shape1, 0)))] [] (srl σ []) (fun r σ' => r = some (.inl n) ∧ σ' = σ)
  have hI2 := hI
  obtain ⟨hO, hn, hD, hp, hm, hst, hln⟩ := hI2
  obtain ⟨⟨hO1, hO2⟩, ⟨hO3, hO4⟩, hO5, hO6, hO7, hO8⟩ := id hO
  refine wp_run 2 (pc' := 4) (ls' := [some (.inr (.inr (r_Shape1, 0)))]) (st' := [.inl (σ r_Shape1_letters 0)]) (σ' := srl σ []) rfl ?_
  exact wp_iret rfl ⟨(by rw [hn]), rfl⟩
theorem ct_X5_longest_Shape1 (σ : en_m) (n : Int) (D : Int) (p : Int) (hI : cS1 σ n D p) : en_fn z_X5_longest [.inr (.inr (r_Shape1, 0))] σ (.inl D) := by
  show en_wp k_X5_longest 0 [some (.inr (.inr (r_Shape1, 0)))] [] (srl σ []) (fun r σ' => r = some (.inl D) ∧ σ' = σ)
  have hI2 := hI
  obtain ⟨hO, hn, hD, hp, hm, hst, hln⟩ := hI2
  obtain ⟨⟨hO1, hO2⟩, ⟨hO3, hO4⟩, hO5, hO6, hO7, hO8⟩ := id hO
  refine wp_run 2 (pc' := 4) (ls' := [some (.inr (.inr (r_Shape1, 0)))]) (st' := [.inl (σ r_Shape1_degree 0)]) (σ' := srl σ []) rfl ?_
  exact wp_iret rfl ⟨(by rw [hD]), rfl⟩
theorem ct_X5_modulus_Shape1 (σ : en_m) (n : Int) (D : Int) (p : Int) (hI : cS1 σ n D p) : en_fn z_X5_modulus [.inr (.inr (r_Shape1, 0))] σ (.inl p) := by
  show en_wp k_X5_modulus 0 [some (.inr (.inr (r_Shape1, 0)))] [] (srl σ []) (fun r σ' => r = some (.inl p) ∧ σ' = σ)
  have hI2 := hI
  obtain ⟨hO, hn, hD, hp, hm, hst, hln⟩ := hI2
  obtain ⟨⟨hO1, hO2⟩, ⟨hO3, hO4⟩, hO5, hO6, hO7, hO8⟩ := id hO
  refine wp_run 2 (pc' := 4) (ls' := [some (.inr (.inr (r_Shape1, 0)))]) (st' := [.inl (σ r_Shape1_prime 0)]) (σ' := srl σ []) rfl ?_
  exact wp_iret rfl ⟨(by rw [hp]), rfl⟩
theorem ct_X5_hasDegree_Shape1 (σ : en_m) (n : Int) (D : Int) (p : Int) (d : Int) (hI : cS1 σ n D p) (h1 : i32 d) : en_fn z_X5_hasDegree [.inr (.inr (r_Shape1, 0)), .inl d] σ (.inl (bI (0 ≤ d ∧ d ≤ D))) := by
  show en_wp k_X5_hasDegree 0 [some (.inr (.inr (r_Shape1, 0))), some (.inl d)] [] (srl σ []) (fun r σ' => r = some (.inl (bI (0 ≤ d ∧ d ≤ D))) ∧ σ' = σ)
  have hI2 := hI
  obtain ⟨hO, hn, hD, hp, hm, hst, hln⟩ := hI2
  obtain ⟨⟨hO1, hO2⟩, ⟨hO3, hO4⟩, hO5, hO6, hO7, hO8⟩ := id hO
  refine wp_run 1 (pc' := 1) (ls' := [some (.inr (.inr (r_Shape1, 0))), some (.inl d)]) (st' := [.inl d]) (σ' := srl σ []) rfl ?_
  refine wp_if_lt rfl (by omega) (fun h_1 => ?_) (fun h_1 => ?_)
  · show en_wp k_X5_hasDegree 16 [some (.inr (.inr (r_Shape1, 0))), some (.inl d)] [] (srl σ []) _
    refine wp_run 1 (pc' := 17) (ls' := [some (.inr (.inr (r_Shape1, 0))), some (.inl d)]) (st' := [.inl 0]) (σ' := srl σ []) rfl ?_
    exact wp_zret rfl (.inl rfl) ⟨(by first | rw [bI_t (by omega)] | rw [bI_f (by omega)]), rfl⟩
  · show en_wp k_X5_hasDegree 4 [some (.inr (.inr (r_Shape1, 0))), some (.inl d)] [] (srl σ []) _
    refine wp_run 3 (pc' := 9) (ls' := [some (.inr (.inr (r_Shape1, 0))), some (.inl d)]) (st' := [.inl (σ r_Shape1_degree 0), .inl d]) (σ' := srl σ []) rfl ?_
    refine wp_ic_gt rfl (by omega) (by omega) (fun h_2 => ?_) (fun h_2 => ?_)
    · show en_wp k_X5_hasDegree 16 [some (.inr (.inr (r_Shape1, 0))), some (.inl d)] [] (srl σ []) _
      refine wp_run 1 (pc' := 17) (ls' := [some (.inr (.inr (r_Shape1, 0))), some (.inl d)]) (st' := [.inl 0]) (σ' := srl σ []) rfl ?_
      exact wp_zret rfl (.inl rfl) ⟨(by first | rw [bI_t (by omega)] | rw [bI_f (by omega)]), rfl⟩
    · show en_wp k_X5_hasDegree 12 [some (.inr (.inr (r_Shape1, 0))), some (.inl d)] [] (srl σ []) _
      refine wp_run 2 (pc' := 17) (ls' := [some (.inr (.inr (r_Shape1, 0))), some (.inl d)]) (st' := [.inl 1]) (σ' := srl σ []) rfl ?_
      exact wp_zret rfl (.inr rfl) ⟨(by first | rw [bI_t (by omega)] | rw [bI_f (by omega)]), rfl⟩
theorem ct_X5_wordsOf_Shape1 (σ : en_m) (n : Int) (D : Int) (p : Int) (d : Int) (hI : cS1 σ n D p) (h1 : i32 d) : en_fn z_X5_wordsOf [.inr (.inr (r_Shape1, 0)), .inl d] σ (.inl (sW n D d)) := by
  show en_wp k_X5_wordsOf 0 [some (.inr (.inr (r_Shape1, 0))), some (.inl d)] [] (srl σ []) (fun r σ' => r = some (.inl (sW n D d)) ∧ σ' = σ)
  have hI2 := hI
  obtain ⟨hO, hn, hD, hp, hm, hst, hln⟩ := hI2
  obtain ⟨⟨hO1, hO2⟩, ⟨hO3, hO4⟩, hO5, hO6, hO7, hO8⟩ := id hO
  refine wp_run 1 (pc' := 1) (ls' := [some (.inr (.inr (r_Shape1, 0))), some (.inl d)]) (st' := [.inl d]) (σ' := srl σ []) rfl ?_
  refine wp_if_lt rfl (by omega) (fun h_1 => ?_) (fun h_1 => ?_)
  · show en_wp k_X5_wordsOf 19 [some (.inr (.inr (r_Shape1, 0))), some (.inl d)] [] (srl σ []) _
    refine wp_run 1 (pc' := 20) (ls' := [some (.inr (.inr (r_Shape1, 0))), some (.inl d)]) (st' := [.inl 0]) (σ' := srl σ []) rfl ?_
    exact wp_iret rfl ⟨(by first | rw [hm d (by omega) (by omega)] | rw [sW_neg (by omega)] | rw [sW_big (by omega)]), rfl⟩
  · show en_wp k_X5_wordsOf 4 [some (.inr (.inr (r_Shape1, 0))), some (.inl d)] [] (srl σ []) _
    refine wp_run 2 (pc' := 7) (ls' := [some (.inr (.inr (r_Shape1, 0))), some (.inl d)]) (st' := [.inl 7, .inl d]) (σ' := srl σ []) rfl ?_
    refine wp_ic_gt rfl (by omega) (by omega) (fun h_2 => ?_) (fun h_2 => ?_)
    · show en_wp k_X5_wordsOf 19 [some (.inr (.inr (r_Shape1, 0))), some (.inl d)] [] (srl σ []) _
      refine wp_run 1 (pc' := 20) (ls' := [some (.inr (.inr (r_Shape1, 0))), some (.inl d)]) (st' := [.inl 0]) (σ' := srl σ []) rfl ?_
      exact wp_iret rfl ⟨(by first | rw [hm d (by omega) (by omega)] | rw [sW_neg (by omega)] | rw [sW_big (by omega)]), rfl⟩
    · show en_wp k_X5_wordsOf 10 [some (.inr (.inr (r_Shape1, 0))), some (.inl d)] [] (srl σ []) _
      refine wp_run 3 (pc' := 15) (ls' := [some (.inr (.inr (r_Shape1, 0))), some (.inl d)]) (st' := [.inl d, .inr (.inr (r_Shape1_many, 0))]) (σ' := srl σ []) rfl ?_
      refine wp_iald0 rfl rfl (by omega) ?_
      show en_wp k_X5_wordsOf 16 [some (.inr (.inr (r_Shape1, 0))), some (.inl d)] [.inl (σ r_Shape1_many d)] (srl σ []) _
      refine wp_run 1 (pc' := 20) (ls' := [some (.inr (.inr (r_Shape1, 0))), some (.inl d)]) (st' := [.inl (σ r_Shape1_many d)]) (σ' := srl σ []) rfl ?_
      exact wp_iret rfl ⟨(by first | rw [hm d (by omega) (by omega)] | rw [sW_neg (by omega)] | rw [sW_big (by omega)]), rfl⟩
theorem ct_X5_startOf_Shape1 (σ : en_m) (n : Int) (D : Int) (p : Int) (d : Int) (hI : cS1 σ n D p) (h1 : i32 d) : en_fn z_X5_startOf [.inr (.inr (r_Shape1, 0)), .inl d] σ (.inl (if 0 ≤ d ∧ d ≤ 7 then sS n D d else 0)) := by
  show en_wp k_X5_startOf 0 [some (.inr (.inr (r_Shape1, 0))), some (.inl d)] [] (srl σ []) (fun r σ' => r = some (.inl (if 0 ≤ d ∧ d ≤ 7 then sS n D d else 0)) ∧ σ' = σ)
  have hI2 := hI
  obtain ⟨hO, hn, hD, hp, hm, hst, hln⟩ := hI2
  obtain ⟨⟨hO1, hO2⟩, ⟨hO3, hO4⟩, hO5, hO6, hO7, hO8⟩ := id hO
  refine wp_run 1 (pc' := 1) (ls' := [some (.inr (.inr (r_Shape1, 0))), some (.inl d)]) (st' := [.inl d]) (σ' := srl σ []) rfl ?_
  refine wp_if_lt rfl (by omega) (fun h_1 => ?_) (fun h_1 => ?_)
  · show en_wp k_X5_startOf 19 [some (.inr (.inr (r_Shape1, 0))), some (.inl d)] [] (srl σ []) _
    refine wp_run 1 (pc' := 20) (ls' := [some (.inr (.inr (r_Shape1, 0))), some (.inl d)]) (st' := [.inl 0]) (σ' := srl σ []) rfl ?_
    exact wp_iret rfl ⟨(by first | rw [hst d (by omega) (by omega), if_pos (by omega)] | rw [if_neg (by omega)]), rfl⟩
  · show en_wp k_X5_startOf 4 [some (.inr (.inr (r_Shape1, 0))), some (.inl d)] [] (srl σ []) _
    refine wp_run 2 (pc' := 7) (ls' := [some (.inr (.inr (r_Shape1, 0))), some (.inl d)]) (st' := [.inl 7, .inl d]) (σ' := srl σ []) rfl ?_
    refine wp_ic_gt rfl (by omega) (by omega) (fun h_2 => ?_) (fun h_2 => ?_)
    · show en_wp k_X5_startOf 19 [some (.inr (.inr (r_Shape1, 0))), some (.inl d)] [] (srl σ []) _
      refine wp_run 1 (pc' := 20) (ls' := [some (.inr (.inr (r_Shape1, 0))), some (.inl d)]) (st' := [.inl 0]) (σ' := srl σ []) rfl ?_
      exact wp_iret rfl ⟨(by first | rw [hst d (by omega) (by omega), if_pos (by omega)] | rw [if_neg (by omega)]), rfl⟩
    · show en_wp k_X5_startOf 10 [some (.inr (.inr (r_Shape1, 0))), some (.inl d)] [] (srl σ []) _
      refine wp_run 3 (pc' := 15) (ls' := [some (.inr (.inr (r_Shape1, 0))), some (.inl d)]) (st' := [.inl d, .inr (.inr (r_Shape1_start, 0))]) (σ' := srl σ []) rfl ?_
      refine wp_iald0 rfl rfl (by omega) ?_
      show en_wp k_X5_startOf 16 [some (.inr (.inr (r_Shape1, 0))), some (.inl d)] [.inl (σ r_Shape1_start d)] (srl σ []) _
      refine wp_run 1 (pc' := 20) (ls' := [some (.inr (.inr (r_Shape1, 0))), some (.inl d)]) (st' := [.inl (σ r_Shape1_start d)]) (σ' := srl σ []) rfl ?_
      exact wp_iret rfl ⟨(by first | rw [hst d (by omega) (by omega), if_pos (by omega)] | rw [if_neg (by omega)]), rfl⟩
theorem ct_X5_wordsInAll_Shape1 (σ : en_m) (n : Int) (D : Int) (p : Int) (hI : cS1 σ n D p) : en_fn z_X5_wordsInAll [.inr (.inr (r_Shape1, 0))] σ (.inl (sS n D (D + 1))) := by
  show en_wp k_X5_wordsInAll 0 [some (.inr (.inr (r_Shape1, 0)))] [] (srl σ []) (fun r σ' => r = some (.inl (sS n D (D + 1))) ∧ σ' = σ)
  have hI2 := hI
  obtain ⟨hO, hn, hD, hp, hm, hst, hln⟩ := hI2
  obtain ⟨⟨hO1, hO2⟩, ⟨hO3, hO4⟩, hO5, hO6, hO7, hO8⟩ := id hO
  refine wp_run 3 (pc' := 6) (ls' := [some (.inr (.inr (r_Shape1, 0)))]) (st' := [.inl 8, .inr (.inr (r_Shape1_start, 0))]) (σ' := srl σ []) rfl ?_
  refine wp_iald0 rfl rfl (by omega) ?_
  show en_wp k_X5_wordsInAll 7 [some (.inr (.inr (r_Shape1, 0)))] [.inl (σ r_Shape1_start 8)] (srl σ []) _
  exact wp_iret rfl ⟨(by rw [hst 8 (by omega) (by omega), sS_8 hO]), rfl⟩
theorem ct_X5_indexOf_Shape1 (σ : en_m) (n : Int) (D : Int) (p : Int) (w : Int) (hI : cS1 σ n D p) (h1 : i32 w) : en_fn z_X5_indexOf [.inr (.inr (r_Shape1, 0)), .inl w] σ (.inl (sAt n D w)) := by
  show en_wp k_X5_indexOf 0 [some (.inr (.inr (r_Shape1, 0))), some (.inl w), none, none] [] (srl σ []) (fun r σ' => r = some (.inl (sAt n D w)) ∧ σ' = σ)
  have hI2 := hI
  obtain ⟨hO, hn, hD, hp, hm, hst, hln⟩ := hI2
  obtain ⟨⟨hO1, hO2⟩, ⟨hO3, hO4⟩, hO5, hO6, hO7, hO8⟩ := id hO
  have hx0 : 0 ≤ w → 0 ≤ w / 1000 ∧ 0 ≤ w % 1000 := fun _ => by omega
  refine wp_run 1 (pc' := 1) (ls' := [some (.inr (.inr (r_Shape1, 0))), some (.inl w), none, none]) (st' := [.inl w]) (σ' := srl σ []) rfl ?_
  refine wp_if_ge rfl (by omega) (fun h_1 => ?_) (fun h_1 => ?_)
  · show en_wp k_X5_indexOf 6 [some (.inr (.inr (r_Shape1, 0))), some (.inl w), none, none] [] (srl σ []) _
    refine wp_run 2 (pc' := 10) (ls' := [some (.inr (.inr (r_Shape1, 0))), some (.inl w), none, none]) (st' := [.inl 1000, .inl w]) (σ' := srl σ []) rfl ?_
    refine wp_idivp rfl (by omega) (by omega) ?_
    show en_wp k_X5_indexOf 11 [some (.inr (.inr (r_Shape1, 0))), some (.inl w), none, none] [.inl (w / 1000)] (srl σ []) _
    refine wp_run 3 (pc' := 16) (ls' := [some (.inr (.inr (r_Shape1, 0))), some (.inl w), some (.inl (w / 1000)), none]) (st' := [.inl 1000, .inl w]) (σ' := srl σ []) rfl ?_
    refine wp_iremp rfl (by omega) (by omega) ?_
    show en_wp k_X5_indexOf 17 [some (.inr (.inr (r_Shape1, 0))), some (.inl w), some (.inl (w / 1000)), none] [.inl (w % 1000)] (srl σ []) _
    refine wp_run 4 (pc' := 21) (ls' := [some (.inr (.inr (r_Shape1, 0))), some (.inl w), some (.inl (w / 1000)), some (.inl (w % 1000))]) (st' := [.inl (w / 1000), .inr (.inr (r_Shape1, 0)), .inl (w % 1000)]) (σ' := srl σ []) rfl ?_
    refine wp_fnv (v := .inl (sW n D (w / 1000))) rfl rfl rfl rfl (ct_X5_wordsOf_Shape1 σ n D p (w / 1000) hI (by omega)) ?_
    show en_wp k_X5_indexOf 24 [some (.inr (.inr (r_Shape1, 0))), some (.inl w), some (.inl (w / 1000)), some (.inl (w % 1000))] [.inl (sW n D (w / 1000)), .inl (w % 1000)] (srl σ []) _
    have q_2 : 0 ≤ sW n D (w / 1000) ∧ sW n D (w / 1000) ≤ 256 := sW_b hO
    refine wp_ic_ge rfl (by omega) (by omega) (fun h_3 => ?_) (fun h_3 => ?_)
    · show en_wp k_X5_indexOf 38 [some (.inr (.inr (r_Shape1, 0))), some (.inl w), some (.inl (w / 1000)), some (.inl (w % 1000))] [] (srl σ []) _
      refine wp_run 1 (pc' := 39) (ls' := [some (.inr (.inr (r_Shape1, 0))), some (.inl w), some (.inl (w / 1000)), some (.inl (w % 1000))]) (st' := [.inl (-1)]) (σ' := srl σ []) rfl ?_
      exact wp_iret rfl ⟨(by first | (rw [hst (w / 1000) (by omega) (by omega), sAt, if_pos (by omega)]) | (rw [sAt, if_neg (by omega)])), rfl⟩
    · show en_wp k_X5_indexOf 27 [some (.inr (.inr (r_Shape1, 0))), some (.inl w), some (.inl (w / 1000)), some (.inl (w % 1000))] [] (srl σ []) _
      refine wp_run 3 (pc' := 32) (ls' := [some (.inr (.inr (r_Shape1, 0))), some (.inl w), some (.inl (w / 1000)), some (.inl (w % 1000))]) (st' := [.inl (w / 1000), .inr (.inr (r_Shape1_start, 0))]) (σ' := srl σ []) rfl ?_
      have hle : w / 1000 ≤ D := by
        rcases Int.lt_or_le D (w / 1000) with h9 | h9
        · have h10 := @sW_big n D (w / 1000) h9
          omega
        · exact h9
      refine wp_iald0 rfl rfl (by omega) ?_
      show en_wp k_X5_indexOf 33 [some (.inr (.inr (r_Shape1, 0))), some (.inl w), some (.inl (w / 1000)), some (.inl (w % 1000))] [.inl (σ r_Shape1_start (w / 1000))] (srl σ []) _
      refine wp_run 3 (pc' := 39) (ls' := [some (.inr (.inr (r_Shape1, 0))), some (.inl w), some (.inl (w / 1000)), some (.inl (w % 1000))]) (st' := [.inl ((σ r_Shape1_start (w / 1000)) + (w % 1000))]) (σ' := srl σ []) rfl ?_
      exact wp_iret rfl ⟨(by first | (rw [hst (w / 1000) (by omega) (by omega), sAt, if_pos (by omega)]) | (rw [sAt, if_neg (by omega)])), rfl⟩
  · show en_wp k_X5_indexOf 4 [some (.inr (.inr (r_Shape1, 0))), some (.inl w), none, none] [] (srl σ []) _
    refine wp_run 1 (pc' := 5) (ls' := [some (.inr (.inr (r_Shape1, 0))), some (.inl w), none, none]) (st' := [.inl (-1)]) (σ' := srl σ []) rfl ?_
    exact wp_iret rfl ⟨(by first | (rw [hst (w / 1000) (by omega) (by omega), sAt, if_pos (by omega)]) | (rw [sAt, if_neg (by omega)])), rfl⟩
theorem ct_X5_lengthAt_Shape1 (σ : en_m) (n : Int) (D : Int) (p : Int) (x : Int) (hI : cS1 σ n D p) (h1 : 0 ≤ x ∧ x < sS n D (D + 1)) : en_fn z_X5_lengthAt [.inr (.inr (r_Shape1, 0)), .inl x] σ (.inl (sL n D x)) := by
  show en_wp k_X5_lengthAt 0 [some (.inr (.inr (r_Shape1, 0))), some (.inl x)] [] (srl σ []) (fun r σ' => r = some (.inl (sL n D x)) ∧ σ' = σ)
  have hI2 := hI
  obtain ⟨hO, hn, hD, hp, hm, hst, hln⟩ := hI2
  obtain ⟨⟨hO1, hO2⟩, ⟨hO3, hO4⟩, hO5, hO6, hO7, hO8⟩ := id hO
  have hSb := sS_b (k := D + 1) hO
  refine wp_run 1 (pc' := 1) (ls' := [some (.inr (.inr (r_Shape1, 0))), some (.inl x)]) (st' := [.inl x]) (σ' := srl σ []) rfl ?_
  refine wp_if_lt rfl (by omega) (fun h_1 => ?_) (fun h_1 => ?_)
  · show en_wp k_X5_lengthAt 20 [some (.inr (.inr (r_Shape1, 0))), some (.inl x)] [] (srl σ []) _
    refine wp_run 1 (pc' := 21) (ls' := [some (.inr (.inr (r_Shape1, 0))), some (.inl x)]) (st' := [.inl 0]) (σ' := srl σ []) rfl ?_
    exact wp_iret rfl ⟨(by first | rw [hln x (by omega) (by omega)] | (exfalso; omega)), rfl⟩
  · show en_wp k_X5_lengthAt 4 [some (.inr (.inr (r_Shape1, 0))), some (.inl x)] [] (srl σ []) _
    refine wp_run 2 (pc' := 8) (ls' := [some (.inr (.inr (r_Shape1, 0))), some (.inl x)]) (st' := [.inl 364, .inl x]) (σ' := srl σ []) rfl ?_
    refine wp_ic_ge rfl (by omega) (by omega) (fun h_2 => ?_) (fun h_2 => ?_)
    · show en_wp k_X5_lengthAt 20 [some (.inr (.inr (r_Shape1, 0))), some (.inl x)] [] (srl σ []) _
      refine wp_run 1 (pc' := 21) (ls' := [some (.inr (.inr (r_Shape1, 0))), some (.inl x)]) (st' := [.inl 0]) (σ' := srl σ []) rfl ?_
      exact wp_iret rfl ⟨(by first | rw [hln x (by omega) (by omega)] | (exfalso; omega)), rfl⟩
    · show en_wp k_X5_lengthAt 11 [some (.inr (.inr (r_Shape1, 0))), some (.inl x)] [] (srl σ []) _
      refine wp_run 3 (pc' := 16) (ls' := [some (.inr (.inr (r_Shape1, 0))), some (.inl x)]) (st' := [.inl x, .inr (.inr (r_Shape1_lengths, 0))]) (σ' := srl σ []) rfl ?_
      refine wp_iald0 rfl rfl (by omega) ?_
      show en_wp k_X5_lengthAt 17 [some (.inr (.inr (r_Shape1, 0))), some (.inl x)] [.inl (σ r_Shape1_lengths x)] (srl σ []) _
      refine wp_run 1 (pc' := 21) (ls' := [some (.inr (.inr (r_Shape1, 0))), some (.inl x)]) (st' := [.inl (σ r_Shape1_lengths x)]) (σ' := srl σ []) rfl ?_
      exact wp_iret rfl ⟨(by first | rw [hln x (by omega) (by omega)] | (exfalso; omega)), rfl⟩
theorem ct_X5_numberAt_Shape1 (σ : en_m) (n : Int) (D : Int) (p : Int) (x : Int) (hI : cS1 σ n D p) (h1 : 0 ≤ x ∧ x < sS n D (D + 1)) : en_fn z_X5_numberAt [.inr (.inr (r_Shape1, 0)), .inl x] σ (.inl (x - sS n D (sL n D x))) := by
  show en_wp k_X5_numberAt 0 [some (.inr (.inr (r_Shape1, 0))), some (.inl x)] [] (srl σ []) (fun r σ' => r = some (.inl (x - sS n D (sL n D x))) ∧ σ' = σ)
  have hI2 := hI
  obtain ⟨hO, hn, hD, hp, hm, hst, hln⟩ := hI2
  obtain ⟨⟨hO1, hO2⟩, ⟨hO3, hO4⟩, hO5, hO6, hO7, hO8⟩ := id hO
  have hSb := sS_b (k := D + 1) hO
  have hLb := sL_b n D x
  refine wp_run 4 (pc' := 4) (ls' := [some (.inr (.inr (r_Shape1, 0))), some (.inl x)]) (st' := [.inl x, .inr (.inr (r_Shape1, 0)), .inr (.inr (r_Shape1, 0)), .inl x]) (σ' := srl σ []) rfl ?_
  refine wp_fnv (v := .inl (sL n D x)) rfl rfl rfl rfl (ct_X5_lengthAt_Shape1 σ n D p x hI (by omega)) ?_
  show en_wp k_X5_numberAt 7 [some (.inr (.inr (r_Shape1, 0))), some (.inl x)] [.inl (sL n D x), .inr (.inr (r_Shape1, 0)), .inl x] (srl σ []) _
  have q_1 : 0 ≤ sL n D x ∧ sL n D x ≤ 7 := sL_b _ _ _
  refine wp_fnv (v := .inl (if 0 ≤ (sL n D x) ∧ (sL n D x) ≤ 7 then sS n D (sL n D x) else 0)) rfl rfl rfl rfl (ct_X5_startOf_Shape1 σ n D p (sL n D x) hI (by omega)) ?_
  show en_wp k_X5_numberAt 10 [some (.inr (.inr (r_Shape1, 0))), some (.inl x)] [.inl (if 0 ≤ (sL n D x) ∧ (sL n D x) ≤ 7 then sS n D (sL n D x) else 0), .inl x] (srl σ []) _
  have q_2 : 0 ≤ (if 0 ≤ (sL n D x) ∧ (sL n D x) ≤ 7 then sS n D (sL n D x) else 0) ∧ (if 0 ≤ (sL n D x) ∧ (sL n D x) ≤ 7 then sS n D (sL n D x) else 0) ≤ 364 := sS_ib hO
  refine wp_run 1 (pc' := 11) (ls' := [some (.inr (.inr (r_Shape1, 0))), some (.inl x)]) (st' := [.inl (x - (if 0 ≤ (sL n D x) ∧ (sL n D x) ≤ 7 then sS n D (sL n D x) else 0))]) (σ' := srl σ []) rfl ?_
  exact wp_iret rfl ⟨(by rw [if_pos (by omega)]), rfl⟩
theorem ct_X5_codeAt_Shape1 (σ : en_m) (n : Int) (D : Int) (p : Int) (x : Int) (hI : cS1 σ n D p) (h1 : 0 ≤ x ∧ x < sS n D (D + 1)) : en_fn z_X5_codeAt [.inr (.inr (r_Shape1, 0)), .inl x] σ (.inl (1000 * sL n D x + (x - sS n D (sL n D x)))) := by
  show en_wp k_X5_codeAt 0 [some (.inr (.inr (r_Shape1, 0))), some (.inl x)] [] (srl σ []) (fun r σ' => r = some (.inl (1000 * sL n D x + (x - sS n D (sL n D x)))) ∧ σ' = σ)
  have hI2 := hI
  obtain ⟨hO, hn, hD, hp, hm, hst, hln⟩ := hI2
  obtain ⟨⟨hO1, hO2⟩, ⟨hO3, hO4⟩, hO5, hO6, hO7, hO8⟩ := id hO
  refine wp_run 3 (pc' := 5) (ls' := [some (.inr (.inr (r_Shape1, 0))), some (.inl x)]) (st' := [.inl x, .inr (.inr (r_Shape1, 0)), .inl 1000]) (σ' := srl σ []) rfl ?_
  refine wp_fnv (v := .inl (sL n D x)) rfl rfl rfl rfl (ct_X5_lengthAt_Shape1 σ n D p x hI (by omega)) ?_
  show en_wp k_X5_codeAt 8 [some (.inr (.inr (r_Shape1, 0))), some (.inl x)] [.inl (sL n D x), .inl 1000] (srl σ []) _
  have q_1 : 0 ≤ sL n D x ∧ sL n D x ≤ 7 := sL_b _ _ _
  refine wp_run 3 (pc' := 11) (ls' := [some (.inr (.inr (r_Shape1, 0))), some (.inl x)]) (st' := [.inl x, .inr (.inr (r_Shape1, 0)), .inl (1000 * (sL n D x))]) (σ' := srl σ []) rfl ?_
  refine wp_fnv (v := .inl (x - sS n D (sL n D x))) rfl rfl rfl rfl (ct_X5_numberAt_Shape1 σ n D p x hI (by omega)) ?_
  show en_wp k_X5_codeAt 14 [some (.inr (.inr (r_Shape1, 0))), some (.inl x)] [.inl (x - sS n D (sL n D x)), .inl (1000 * (sL n D x))] (srl σ []) _
  refine wp_run 1 (pc' := 15) (ls' := [some (.inr (.inr (r_Shape1, 0))), some (.inl x)]) (st' := [.inl ((1000 * (sL n D x)) + (x - sS n D (sL n D x)))]) (σ' := srl σ []) rfl ?_
  exact wp_iret rfl ⟨rfl, rfl⟩
theorem ct_X5_join_Shape1 (σ : en_m) (n : Int) (D : Int) (p : Int) (a : Int) (b : Int) (d : Int) (hI : cS1 σ n D p) (h1 : i32 d) : en_fn z_X5_join [.inr (.inr (r_Shape1, 0)), .inl a, .inl b, .inl d] σ (.inl (a * sW n D d + b)) := by
  show en_wp k_X5_join 0 [some (.inr (.inr (r_Shape1, 0))), some (.inl a), some (.inl b), some (.inl d)] [] (srl σ []) (fun r σ' => r = some (.inl (a * sW n D d + b)) ∧ σ' = σ)
  have hI2 := hI
  obtain ⟨hO, hn, hD, hp, hm, hst, hln⟩ := hI2
  obtain ⟨⟨hO1, hO2⟩, ⟨hO3, hO4⟩, hO5, hO6, hO7, hO8⟩ := id hO
  refine wp_run 3 (pc' := 3) (ls' := [some (.inr (.inr (r_Shape1, 0))), some (.inl a), some (.inl b), some (.inl d)]) (st' := [.inl d, .inr (.inr (r_Shape1, 0)), .inl a]) (σ' := srl σ []) rfl ?_
  refine wp_fnv (v := .inl (sW n D d)) rfl rfl rfl rfl (ct_X5_wordsOf_Shape1 σ n D p d hI (by omega)) ?_
  show en_wp k_X5_join 6 [some (.inr (.inr (r_Shape1, 0))), some (.inl a), some (.inl b), some (.inl d)] [.inl (sW n D d), .inl a] (srl σ []) _
  have q_1 : 0 ≤ sW n D d ∧ sW n D d ≤ 256 := sW_b hO
  refine wp_run 3 (pc' := 9) (ls' := [some (.inr (.inr (r_Shape1, 0))), some (.inl a), some (.inl b), some (.inl d)]) (st' := [.inl ((a * (sW n D d)) + b)]) (σ' := srl σ []) rfl ?_
  exact wp_iret rfl ⟨rfl, rfl⟩
theorem ct_X5_tailOf_Shape1 (σ : en_m) (n : Int) (D : Int) (p : Int) (x : Int) (d : Int) (hI : cS1 σ n D p) (h1 : i32 d) (h2 : 0 ≤ x ∧ x ≤ 2147483647) : en_fn z_X5_tailOf [.inr (.inr (r_Shape1, 0)), .inl x, .inl d] σ (.inl (if 0 < sW n D d then x % sW n D d else 0)) := by
  show en_wp k_X5_tailOf 0 [some (.inr (.inr (r_Shape1, 0))), some (.inl x), some (.inl d), none] [] (srl σ []) (fun r σ' => r = some (.inl (if 0 < sW n D d then x % sW n D d else 0)) ∧ σ' = σ)
  have hI2 := hI
  obtain ⟨hO, hn, hD, hp, hm, hst, hln⟩ := hI2
  obtain ⟨⟨hO1, hO2⟩, ⟨hO3, hO4⟩, hO5, hO6, hO7, hO8⟩ := id hO
  refine wp_run 2 (pc' := 2) (ls' := [some (.inr (.inr (r_Shape1, 0))), some (.inl x), some (.inl d), none]) (st' := [.inl d, .inr (.inr (r_Shape1, 0))]) (σ' := srl σ []) rfl ?_
  refine wp_fnv (v := .inl (sW n D d)) rfl rfl rfl rfl (ct_X5_wordsOf_Shape1 σ n D p d hI (by omega)) ?_
  show en_wp k_X5_tailOf 5 [some (.inr (.inr (r_Shape1, 0))), some (.inl x), some (.inl d), none] [.inl (sW n D d)] (srl σ []) _
  have q_1 : 0 ≤ sW n D d ∧ sW n D d ≤ 256 := sW_b hO
  refine wp_run 2 (pc' := 7) (ls' := [some (.inr (.inr (r_Shape1, 0))), some (.inl x), some (.inl d), some (.inl (sW n D d))]) (st' := [.inl (sW n D d)]) (σ' := srl σ []) rfl ?_
  refine wp_if_le rfl (by omega) (fun h_2 => ?_) (fun h_2 => ?_)
  · show en_wp k_X5_tailOf 16 [some (.inr (.inr (r_Shape1, 0))), some (.inl x), some (.inl d), some (.inl (sW n D d))] [] (srl σ []) _
    refine wp_run 1 (pc' := 17) (ls' := [some (.inr (.inr (r_Shape1, 0))), some (.inl x), some (.inl d), some (.inl (sW n D d))]) (st' := [.inl 0]) (σ' := srl σ []) rfl ?_
    exact wp_iret rfl ⟨(by repeat (first | rfl | rw [if_pos (by omega)] | rw [if_neg (by omega)])), rfl⟩
  · show en_wp k_X5_tailOf 10 [some (.inr (.inr (r_Shape1, 0))), some (.inl x), some (.inl d), some (.inl (sW n D d))] [] (srl σ []) _
    refine wp_run 2 (pc' := 12) (ls' := [some (.inr (.inr (r_Shape1, 0))), some (.inl x), some (.inl d), some (.inl (sW n D d))]) (st' := [.inl (sW n D d), .inl x]) (σ' := srl σ []) rfl ?_
    refine wp_iremp rfl (by omega) (by omega) ?_
    show en_wp k_X5_tailOf 13 [some (.inr (.inr (r_Shape1, 0))), some (.inl x), some (.inl d), some (.inl (sW n D d))] [.inl (x % (sW n D d))] (srl σ []) _
    refine wp_run 1 (pc' := 17) (ls' := [some (.inr (.inr (r_Shape1, 0))), some (.inl x), some (.inl d), some (.inl (sW n D d))]) (st' := [.inl (x % (sW n D d))]) (σ' := srl σ []) rfl ?_
    exact wp_iret rfl ⟨(by repeat (first | rfl | rw [if_pos (by omega)] | rw [if_neg (by omega)])), rfl⟩
theorem ct_X5_headOf_Shape1 (σ : en_m) (n : Int) (D : Int) (p : Int) (x : Int) (d : Int) (hI : cS1 σ n D p) (h1 : i32 d) (h2 : 0 ≤ x ∧ x ≤ 2147483647) : en_fn z_X5_headOf [.inr (.inr (r_Shape1, 0)), .inl x, .inl d] σ (.inl (if 0 < sW n D d then x / sW n D d else 0)) := by
  show en_wp k_X5_headOf 0 [some (.inr (.inr (r_Shape1, 0))), some (.inl x), some (.inl d), none] [] (srl σ []) (fun r σ' => r = some (.inl (if 0 < sW n D d then x / sW n D d else 0)) ∧ σ' = σ)
  have hI2 := hI
  obtain ⟨hO, hn, hD, hp, hm, hst, hln⟩ := hI2
  obtain ⟨⟨hO1, hO2⟩, ⟨hO3, hO4⟩, hO5, hO6, hO7, hO8⟩ := id hO
  refine wp_run 2 (pc' := 2) (ls' := [some (.inr (.inr (r_Shape1, 0))), some (.inl x), some (.inl d), none]) (st' := [.inl d, .inr (.inr (r_Shape1, 0))]) (σ' := srl σ []) rfl ?_
  refine wp_fnv (v := .inl (sW n D d)) rfl rfl rfl rfl (ct_X5_wordsOf_Shape1 σ n D p d hI (by omega)) ?_
  show en_wp k_X5_headOf 5 [some (.inr (.inr (r_Shape1, 0))), some (.inl x), some (.inl d), none] [.inl (sW n D d)] (srl σ []) _
  have q_1 : 0 ≤ sW n D d ∧ sW n D d ≤ 256 := sW_b hO
  refine wp_run 2 (pc' := 7) (ls' := [some (.inr (.inr (r_Shape1, 0))), some (.inl x), some (.inl d), some (.inl (sW n D d))]) (st' := [.inl (sW n D d)]) (σ' := srl σ []) rfl ?_
  refine wp_if_le rfl (by omega) (fun h_2 => ?_) (fun h_2 => ?_)
  · show en_wp k_X5_headOf 16 [some (.inr (.inr (r_Shape1, 0))), some (.inl x), some (.inl d), some (.inl (sW n D d))] [] (srl σ []) _
    refine wp_run 1 (pc' := 17) (ls' := [some (.inr (.inr (r_Shape1, 0))), some (.inl x), some (.inl d), some (.inl (sW n D d))]) (st' := [.inl 0]) (σ' := srl σ []) rfl ?_
    exact wp_iret rfl ⟨(by repeat (first | rfl | rw [if_pos (by omega)] | rw [if_neg (by omega)])), rfl⟩
  · show en_wp k_X5_headOf 10 [some (.inr (.inr (r_Shape1, 0))), some (.inl x), some (.inl d), some (.inl (sW n D d))] [] (srl σ []) _
    refine wp_run 2 (pc' := 12) (ls' := [some (.inr (.inr (r_Shape1, 0))), some (.inl x), some (.inl d), some (.inl (sW n D d))]) (st' := [.inl (sW n D d), .inl x]) (σ' := srl σ []) rfl ?_
    refine wp_idivp rfl (by omega) (by omega) ?_
    show en_wp k_X5_headOf 13 [some (.inr (.inr (r_Shape1, 0))), some (.inl x), some (.inl d), some (.inl (sW n D d))] [.inl (x / (sW n D d))] (srl σ []) _
    refine wp_run 1 (pc' := 17) (ls' := [some (.inr (.inr (r_Shape1, 0))), some (.inl x), some (.inl d), some (.inl (sW n D d))]) (st' := [.inl (x / (sW n D d))]) (σ' := srl σ []) rfl ?_
    exact wp_iret rfl ⟨(by repeat (first | rfl | rw [if_pos (by omega)] | rw [if_neg (by omega)])), rfl⟩
theorem ct_X5_rest_Shape1 (σ : en_m) (n : Int) (D : Int) (p : Int) (v : Int) (hI : cS1 σ n D p) (h1 : i32 v) : en_fn z_X5_rest [.inr (.inr (r_Shape1, 0)), .inl v] σ (.inl (v % p)) := by
  show en_wp k_X5_rest 0 [some (.inr (.inr (r_Shape1, 0))), some (.inl v), none] [] (srl σ []) (fun r σ' => r = some (.inl (v % p)) ∧ σ' = σ)
  have hI2 := hI
  obtain ⟨hO, hn, hD, hp, hm, hst, hln⟩ := hI2
  obtain ⟨⟨hO1, hO2⟩, ⟨hO3, hO4⟩, hO5, hO6, hO7, hO8⟩ := id hO
  have hp0 : 0 < σ r_Shape1_prime 0 := by omega
  have hb := sR_tb (v := v) hp0
  refine wp_run 3 (pc' := 5) (ls' := [some (.inr (.inr (r_Shape1, 0))), some (.inl v), none]) (st' := [.inl 1, .inl (σ r_Shape1_prime 0)]) (σ' := srl σ []) rfl ?_
  refine wp_ic_le rfl (by omega) (by omega) (fun h_1 => ?_) (fun h_1 => ?_)
  · show en_wp k_X5_rest 17 [some (.inr (.inr (r_Shape1, 0))), some (.inl v), none] [] (srl σ []) _
    refine wp_run 5 (pc' := 33) (ls' := [some (.inr (.inr (r_Shape1, 0))), some (.inl v), some (.inl 0)]) (st' := [.inl 0]) (σ' := srl σ []) rfl ?_
    exact wp_iret rfl ⟨(by first | rw [sR_n hp0 (by assumption), hp] | rw [sR_p hp0 (by assumption), hp] | (exfalso; omega)), rfl⟩
  · show en_wp k_X5_rest 8 [some (.inr (.inr (r_Shape1, 0))), some (.inl v), none] [] (srl σ []) _
    refine wp_run 3 (pc' := 13) (ls' := [some (.inr (.inr (r_Shape1, 0))), some (.inl v), none]) (st' := [.inl (σ r_Shape1_prime 0), .inl v]) (σ' := srl σ []) rfl ?_
    refine wp_irem rfl (by omega) (by omega) (by omega) ?_
    show en_wp k_X5_rest 14 [some (.inr (.inr (r_Shape1, 0))), some (.inl v), none] [.inl (v.tmod (σ r_Shape1_prime 0))] (srl σ []) _
    refine wp_run 3 (pc' := 20) (ls' := [some (.inr (.inr (r_Shape1, 0))), some (.inl v), some (.inl (v.tmod (σ r_Shape1_prime 0)))]) (st' := [.inl (v.tmod (σ r_Shape1_prime 0))]) (σ' := srl σ []) rfl ?_
    refine wp_if_ge rfl (by omega) (fun h_2 => ?_) (fun h_2 => ?_)
    · show en_wp k_X5_rest 32 [some (.inr (.inr (r_Shape1, 0))), some (.inl v), some (.inl (v.tmod (σ r_Shape1_prime 0)))] [] (srl σ []) _
      refine wp_run 1 (pc' := 33) (ls' := [some (.inr (.inr (r_Shape1, 0))), some (.inl v), some (.inl (v.tmod (σ r_Shape1_prime 0)))]) (st' := [.inl (v.tmod (σ r_Shape1_prime 0))]) (σ' := srl σ []) rfl ?_
      exact wp_iret rfl ⟨(by first | rw [sR_n hp0 (by assumption), hp] | rw [sR_p hp0 (by assumption), hp] | (exfalso; omega)), rfl⟩
    · show en_wp k_X5_rest 23 [some (.inr (.inr (r_Shape1, 0))), some (.inl v), some (.inl (v.tmod (σ r_Shape1_prime 0)))] [] (srl σ []) _
      refine wp_run 5 (pc' := 33) (ls' := [some (.inr (.inr (r_Shape1, 0))), some (.inl v), some (.inl (v.tmod (σ r_Shape1_prime 0)))]) (st' := [.inl ((v.tmod (σ r_Shape1_prime 0)) + (σ r_Shape1_prime 0))]) (σ' := srl σ []) rfl ?_
      exact wp_iret rfl ⟨(by first | rw [sR_n hp0 (by assumption), hp] | rw [sR_p hp0 (by assumption), hp] | (exfalso; omega)), rfl⟩
theorem ct_X5_inverseOf_Shape1 (σ : en_m) (n : Int) (D : Int) (p : Int) (v : Int) (hI : cS1 σ n D p) (h1 : 1 ≤ v ∧ v < p) : en_ct z_X5_inverseOf [.inr (.inr (r_Shape1, 0)), .inl v] σ (fun r σ' => ∃ (rr : Int), r = some (.inl rr) ∧ σ' = srl σ [] ∧ (1 ≤ rr ∧ rr < p ∧ (rr * v) % p = 1)) := by
  show en_wp k_X5_inverseOf 0 [some (.inr (.inr (r_Shape1, 0))), some (.inl v), none] [] (srl σ []) (fun r σ' => ∃ (rr : Int), r = some (.inl rr) ∧ σ' = srl σ [] ∧ (1 ≤ rr ∧ rr < p ∧ (rr * v) % p = 1))
  have hI2 := hI
  obtain ⟨hO, hn, hD, hp, hm, hst, hln⟩ := hI2
  obtain ⟨⟨hO1, hO2⟩, ⟨hO3, hO4⟩, hO5, hO6, hO7, hO8⟩ := id hO
  have L_2 : ∀ (N : Nat) (k : Int), (1 ≤ k ∧ k ≤ p) → (∀ j, 1 ≤ j → j < k → ¬ (j * v) % p = 1) → (p - k).toNat < N → en_wp k_X5_inverseOf 2 [some (.inr (.inr (r_Shape1, 0))), some (.inl v), some (.inl k)] [] (srl σ []) (fun r σ' => ∃ (rr : Int), r = some (.inl rr) ∧ σ' = srl σ [] ∧ (1 ≤ rr ∧ rr < p ∧ (rr * v) % p = 1)) := by
    intro N
    induction N with
    | zero => intro k; intros; omega
    | succ N ih_2 =>
      intro k hk hno hN_2
      refine wp_run 3 (pc' := 7) (ls' := [some (.inr (.inr (r_Shape1, 0))), some (.inl v), some (.inl k)]) (st' := [.inl (σ r_Shape1_prime 0), .inl k]) (σ' := srl σ []) rfl ?_
      refine wp_ic_ge rfl (by rw [hp] at *; omega) (by rw [hp] at *; omega) (fun h_1 => ?_) (fun h_1 => ?_)
      · rw [hp] at h_1
        obtain ⟨i, h7, h8, h9⟩ := pr_inv hO.2.2.2 h1.1 h1.2
        exact absurd h9 (hno i h7 (by omega))
      · rw [hp] at h_1
        show en_wp k_X5_inverseOf 10 [some (.inr (.inr (r_Shape1, 0))), some (.inl v), some (.inl k)] [] (srl σ []) _
        refine wp_run 4 (pc' := 14) (ls' := [some (.inr (.inr (r_Shape1, 0))), some (.inl v), some (.inl k)]) (st' := [.inl (k * v), .inr (.inr (r_Shape1, 0))]) (σ' := srl σ []) rfl ?_
        have hm1 := m97 (a := k) (b := v) (by omega) (by omega)
        refine wp_fnv (v := .inl ((k * v) % p)) rfl rfl rfl rfl (ct_X5_rest_Shape1 σ n D p (k * v) hI (by omega)) ?_
        show en_wp k_X5_inverseOf 17 [some (.inr (.inr (r_Shape1, 0))), some (.inl v), some (.inl k)] [.inl ((k * v) % p)] (srl σ []) _
        have q_2 : 0 ≤ (k * v) % p ∧ (k * v) % p < p := sR_lt hO.2.2.2
        refine wp_run 1 (pc' := 18) (ls' := [some (.inr (.inr (r_Shape1, 0))), some (.inl v), some (.inl k)]) (st' := [.inl 1, .inl ((k * v) % p)]) (σ' := srl σ []) rfl ?_
        refine wp_ic_ne rfl (by omega) (by omega) (fun h_3 => ?_) (fun h_3 => ?_)
        · show en_wp k_X5_inverseOf 23 [some (.inr (.inr (r_Shape1, 0))), some (.inl v), some (.inl k)] [] (srl σ []) _
          refine wp_run 2 (pc' := 2) (ls' := [some (.inr (.inr (r_Shape1, 0))), some (.inl v), some (.inl (k + 1))]) (st' := []) (σ' := srl σ []) rfl ?_
          exact ih_2 (k + 1) (by omega) (by intro j h2 h3; rcases Int.lt_or_eq_of_le (show j ≤ k by omega) with h9 | h9 <;> first | exact hno j h2 h9 | (rw [h9]; assumption)) (by omega)
        · show en_wp k_X5_inverseOf 21 [some (.inr (.inr (r_Shape1, 0))), some (.inl v), some (.inl k)] [] (srl σ []) _
          refine wp_run 1 (pc' := 22) (ls' := [some (.inr (.inr (r_Shape1, 0))), some (.inl v), some (.inl k)]) (st' := [.inl k]) (σ' := srl σ []) rfl ?_
          exact wp_iret rfl ⟨k, rfl, srl_eq (l' := []) trivial trivial, ⟨by omega, by omega, by assumption⟩⟩
  refine wp_run 2 (pc' := 2) (ls' := [some (.inr (.inr (r_Shape1, 0))), some (.inl v), some (.inl 1)]) (st' := []) (σ' := srl σ []) rfl ?_
  exact L_2 _ 1 (by omega) (by intro j h2 h3; omega) (Nat.lt_succ_self _)
