/-! contracts of methods, walked (written by wip/whole/walk.py from the annotations ann_sq) -/
theorem ct_X6_square (σ : en_m) (n : Int) (D : Int) (p : Int) (a : Int) (b : Int) (c : Int) (d : Int) (hI : cS0 σ n D p) (h0 : i32 a) (h1 : i32 b) (h2 : i32 c) (h3 : i32 d) : en_fn z_X6_square [.inr (.inr (r_Squares, 0)), .inl a, .inl b, .inl c, .inl d] σ (.inl (((d % p * p + c % p) * p + b % p) * p + a % p)) := by
  show en_wp k_X6_square 0 [some (.inr (.inr (r_Squares, 0))), some (.inl a), some (.inl b), some (.inl c), some (.inl d), none] [] (srl σ []) (fun r σ' => r = some (.inl (((d % p * p + c % p) * p + b % p) * p + a % p)) ∧ σ' = σ)
  have hI2 := hI
  obtain ⟨hO, hn, hD, hp, hm, hst, hln⟩ := hI2
  obtain ⟨⟨hO1, hO2⟩, ⟨hO3, hO4⟩, hO5, hO6, hO7, hO8⟩ := id hO
  refine wp_run 2 (pc' := 4) (ls' := [some (.inr (.inr (r_Squares, 0))), some (.inl a), some (.inl b), some (.inl c), some (.inl d), none]) (st' := [.inr (.inr (r_Shape0, 0))]) (σ' := srl σ []) rfl ?_
  refine wp_fnv (v := .inl p) rfl rfl rfl rfl (ct_X5_modulus_Shape0 σ n D p hI) ?_
  show en_wp k_X6_square 7 [some (.inr (.inr (r_Squares, 0))), some (.inl a), some (.inl b), some (.inl c), some (.inl d), none] [.inl p] (srl σ []) _
  refine wp_run 4 (pc' := 15) (ls' := [some (.inr (.inr (r_Squares, 0))), some (.inl a), some (.inl b), some (.inl c), some (.inl d), some (.inl p)]) (st' := [.inl d, .inr (.inr (r_Shape0, 0))]) (σ' := srl σ []) rfl ?_
  refine wp_fnv (v := .inl (d % p)) rfl rfl rfl rfl (ct_X5_rest_Shape0 σ n D p d hI (by omega)) ?_
  show en_wp k_X6_square 18 [some (.inr (.inr (r_Squares, 0))), some (.inl a), some (.inl b), some (.inl c), some (.inl d), some (.inl p)] [.inl (d % p)] (srl σ []) _
  have q_1 : 0 ≤ d % p ∧ d % p < p := sR_lt hO.2.2.2
  refine wp_run 5 (pc' := 26) (ls' := [some (.inr (.inr (r_Squares, 0))), some (.inl a), some (.inl b), some (.inl c), some (.inl d), some (.inl p)]) (st' := [.inl c, .inr (.inr (r_Shape0, 0)), .inl ((d % p) * p)]) (σ' := srl σ []) rfl ?_
  refine wp_fnv (v := .inl (c % p)) rfl rfl rfl rfl (ct_X5_rest_Shape0 σ n D p c hI (by omega)) ?_
  show en_wp k_X6_square 29 [some (.inr (.inr (r_Squares, 0))), some (.inl a), some (.inl b), some (.inl c), some (.inl d), some (.inl p)] [.inl (c % p), .inl ((d % p) * p)] (srl σ []) _
  have q_2 : 0 ≤ c % p ∧ c % p < p := sR_lt hO.2.2.2
  refine wp_run 6 (pc' := 38) (ls' := [some (.inr (.inr (r_Squares, 0))), some (.inl a), some (.inl b), some (.inl c), some (.inl d), some (.inl p)]) (st' := [.inl b, .inr (.inr (r_Shape0, 0)), .inl ((((d % p) * p) + (c % p)) * p)]) (σ' := srl σ []) rfl ?_
  refine wp_fnv (v := .inl (b % p)) rfl rfl rfl rfl (ct_X5_rest_Shape0 σ n D p b hI (by omega)) ?_
  show en_wp k_X6_square 41 [some (.inr (.inr (r_Squares, 0))), some (.inl a), some (.inl b), some (.inl c), some (.inl d), some (.inl p)] [.inl (b % p), .inl ((((d % p) * p) + (c % p)) * p)] (srl σ []) _
  have q_3 : 0 ≤ b % p ∧ b % p < p := sR_lt hO.2.2.2
  refine wp_run 6 (pc' := 50) (ls' := [some (.inr (.inr (r_Squares, 0))), some (.inl a), some (.inl b), some (.inl c), some (.inl d), some (.inl p)]) (st' := [.inl a, .inr (.inr (r_Shape0, 0)), .inl ((((((d % p) * p) + (c % p)) * p) + (b % p)) * p)]) (σ' := srl σ []) rfl ?_
  refine wp_fnv (v := .inl (a % p)) rfl rfl rfl rfl (ct_X5_rest_Shape0 σ n D p a hI (by omega)) ?_
  show en_wp k_X6_square 53 [some (.inr (.inr (r_Squares, 0))), some (.inl a), some (.inl b), some (.inl c), some (.inl d), some (.inl p)] [.inl (a % p), .inl ((((((d % p) * p) + (c % p)) * p) + (b % p)) * p)] (srl σ []) _
  have q_4 : 0 ≤ a % p ∧ a % p < p := sR_lt hO.2.2.2
  refine wp_run 1 (pc' := 54) (ls' := [some (.inr (.inr (r_Squares, 0))), some (.inl a), some (.inl b), some (.inl c), some (.inl d), some (.inl p)]) (st' := [.inl (((((((d % p) * p) + (c % p)) * p) + (b % p)) * p) + (a % p))]) (σ' := srl σ []) rfl ?_
  exact wp_iret rfl ⟨rfl, rfl⟩
theorem ct_X6_sum (σ : en_m) (n : Int) (D : Int) (p : Int) (a : Int) (b : Int) (hI : cS0 σ n D p) (hsd : (σ r_Squares_side) 0 = 1 ∨ (σ r_Squares_side) 0 = 2) (h1 : (0 ≤ a ∧ a ≤ 96) ∧ 0 ≤ b ∧ b ≤ 96) (h2 : (σ r_Squares_side) 0 = 2 → a ≤ 80 ∧ b ≤ 80) : en_fn z_X6_sum [.inr (.inr (r_Squares, 0)), .inl a, .inl b] σ (.inl (if (σ r_Squares_side) 0 = 1 then (a + b) % p else (σ r_Squares_sumTable) (a * 81 + b))) := by
  show en_wp k_X6_sum 0 [some (.inr (.inr (r_Squares, 0))), some (.inl a), some (.inl b)] [] (srl σ []) (fun r σ' => r = some (.inl (if (σ r_Squares_side) 0 = 1 then (a + b) % p else (σ r_Squares_sumTable) (a * 81 + b))) ∧ σ' = σ)
  have hI2 := hI
  obtain ⟨hO, hn, hD, hp, hm, hst, hln⟩ := hI2
  obtain ⟨⟨hO1, hO2⟩, ⟨hO3, hO4⟩, hO5, hO6, hO7, hO8⟩ := id hO
  refine wp_run 3 (pc' := 5) (ls' := [some (.inr (.inr (r_Squares, 0))), some (.inl a), some (.inl b)]) (st' := [.inl 1, .inl (σ r_Squares_side 0)]) (σ' := srl σ []) rfl ?_
  refine wp_ic_ne rfl (by omega) (by omega) (fun h_1 => ?_) (fun h_1 => ?_)
  · show en_wp k_X6_sum 21 [some (.inr (.inr (r_Squares, 0))), some (.inl a), some (.inl b)] [] (srl σ []) _
    refine wp_run 7 (pc' := 31) (ls' := [some (.inr (.inr (r_Squares, 0))), some (.inl a), some (.inl b)]) (st' := [.inl ((a * 81) + b), .inr (.inr (r_Squares_sumTable, 0))]) (σ' := srl σ []) rfl ?_
    refine wp_iald0 rfl rfl (by omega) ?_
    show en_wp k_X6_sum 32 [some (.inr (.inr (r_Squares, 0))), some (.inl a), some (.inl b)] [.inl (σ r_Squares_sumTable ((a * 81) + b))] (srl σ []) _
    exact wp_iret rfl ⟨(by repeat (first | rfl | rw [if_pos (by omega)] | rw [if_neg (by omega)])), rfl⟩
  · show en_wp k_X6_sum 8 [some (.inr (.inr (r_Squares, 0))), some (.inl a), some (.inl b)] [] (srl σ []) _
    refine wp_run 5 (pc' := 15) (ls' := [some (.inr (.inr (r_Squares, 0))), some (.inl a), some (.inl b)]) (st' := [.inl (a + b), .inr (.inr (r_Shape0, 0))]) (σ' := srl σ []) rfl ?_
    refine wp_fnv (v := .inl ((a + b) % p)) rfl rfl rfl rfl (ct_X5_rest_Shape0 σ n D p (a + b) hI (by omega)) ?_
    show en_wp k_X6_sum 18 [some (.inr (.inr (r_Squares, 0))), some (.inl a), some (.inl b)] [.inl ((a + b) % p)] (srl σ []) _
    have q_2 : 0 ≤ (a + b) % p ∧ (a + b) % p < p := sR_lt hO.2.2.2
    refine wp_run 1 (pc' := 32) (ls' := [some (.inr (.inr (r_Squares, 0))), some (.inl a), some (.inl b)]) (st' := [.inl ((a + b) % p)]) (σ' := srl σ []) rfl ?_
    exact wp_iret rfl ⟨(by repeat (first | rfl | rw [if_pos (by omega)] | rw [if_neg (by omega)])), rfl⟩
theorem ct_X6_product (σ : en_m) (n : Int) (D : Int) (p : Int) (a : Int) (b : Int) (hI : cS0 σ n D p) (hsd : (σ r_Squares_side) 0 = 1 ∨ (σ r_Squares_side) 0 = 2) (h1 : (0 ≤ a ∧ a ≤ 96) ∧ 0 ≤ b ∧ b ≤ 96) (h2 : (σ r_Squares_side) 0 = 2 → a ≤ 80 ∧ b ≤ 80) : en_fn z_X6_product [.inr (.inr (r_Squares, 0)), .inl a, .inl b] σ (.inl (if (σ r_Squares_side) 0 = 1 then (a * b) % p else (σ r_Squares_productTable) (a * 81 + b))) := by
  show en_wp k_X6_product 0 [some (.inr (.inr (r_Squares, 0))), some (.inl a), some (.inl b)] [] (srl σ []) (fun r σ' => r = some (.inl (if (σ r_Squares_side) 0 = 1 then (a * b) % p else (σ r_Squares_productTable) (a * 81 + b))) ∧ σ' = σ)
  have hI2 := hI
  obtain ⟨hO, hn, hD, hp, hm, hst, hln⟩ := hI2
  obtain ⟨⟨hO1, hO2⟩, ⟨hO3, hO4⟩, hO5, hO6, hO7, hO8⟩ := id hO
  have hm1 := m97 (a := a) (b := b) (by omega) (by omega)
  refine wp_run 3 (pc' := 5) (ls' := [some (.inr (.inr (r_Squares, 0))), some (.inl a), some (.inl b)]) (st' := [.inl 1, .inl (σ r_Squares_side 0)]) (σ' := srl σ []) rfl ?_
  refine wp_ic_ne rfl (by omega) (by omega) (fun h_1 => ?_) (fun h_1 => ?_)
  · show en_wp k_X6_product 21 [some (.inr (.inr (r_Squares, 0))), some (.inl a), some (.inl b)] [] (srl σ []) _
    refine wp_run 7 (pc' := 31) (ls' := [some (.inr (.inr (r_Squares, 0))), some (.inl a), some (.inl b)]) (st' := [.inl ((a * 81) + b), .inr (.inr (r_Squares_productTable, 0))]) (σ' := srl σ []) rfl ?_
    refine wp_iald0 rfl rfl (by omega) ?_
    show en_wp k_X6_product 32 [some (.inr (.inr (r_Squares, 0))), some (.inl a), some (.inl b)] [.inl (σ r_Squares_productTable ((a * 81) + b))] (srl σ []) _
    exact wp_iret rfl ⟨(by repeat (first | rfl | rw [if_pos (by omega)] | rw [if_neg (by omega)])), rfl⟩
  · show en_wp k_X6_product 8 [some (.inr (.inr (r_Squares, 0))), some (.inl a), some (.inl b)] [] (srl σ []) _
    refine wp_run 5 (pc' := 15) (ls' := [some (.inr (.inr (r_Squares, 0))), some (.inl a), some (.inl b)]) (st' := [.inl (a * b), .inr (.inr (r_Shape0, 0))]) (σ' := srl σ []) rfl ?_
    refine wp_fnv (v := .inl ((a * b) % p)) rfl rfl rfl rfl (ct_X5_rest_Shape0 σ n D p (a * b) hI (by omega)) ?_
    show en_wp k_X6_product 18 [some (.inr (.inr (r_Squares, 0))), some (.inl a), some (.inl b)] [.inl ((a * b) % p)] (srl σ []) _
    have q_2 : 0 ≤ (a * b) % p ∧ (a * b) % p < p := sR_lt hO.2.2.2
    refine wp_run 1 (pc' := 32) (ls' := [some (.inr (.inr (r_Squares, 0))), some (.inl a), some (.inl b)]) (st' := [.inl ((a * b) % p)]) (σ' := srl σ []) rfl ?_
    exact wp_iret rfl ⟨(by repeat (first | rfl | rw [if_pos (by omega)] | rw [if_neg (by omega)])), rfl⟩
theorem ct_X6_timesOne (σ : en_m) (n : Int) (D : Int) (p : Int) (a : Int) (hI : cS0 σ n D p) (hsd : (σ r_Squares_side) 0 = 1 ∨ (σ r_Squares_side) 0 = 2) (h1 : i32 a) : en_fn z_X6_timesOne [.inr (.inr (r_Squares, 0)), .inl a] σ (.inl (if (σ r_Squares_side) 0 = 1 then a % p else (((a % p * p + 0 % p) * p + 0 % p) * p + a % p))) := by
  show en_wp k_X6_timesOne 0 [some (.inr (.inr (r_Squares, 0))), some (.inl a)] [] (srl σ []) (fun r σ' => r = some (.inl (if (σ r_Squares_side) 0 = 1 then a % p else (((a % p * p + 0 % p) * p + 0 % p) * p + a % p))) ∧ σ' = σ)
  have hI2 := hI
  obtain ⟨hO, hn, hD, hp, hm, hst, hln⟩ := hI2
  obtain ⟨⟨hO1, hO2⟩, ⟨hO3, hO4⟩, hO5, hO6, hO7, hO8⟩ := id hO
  refine wp_run 3 (pc' := 5) (ls' := [some (.inr (.inr (r_Squares, 0))), some (.inl a)]) (st' := [.inl 1, .inl (σ r_Squares_side 0)]) (σ' := srl σ []) rfl ?_
  refine wp_ic_ne rfl (by omega) (by omega) (fun h_1 => ?_) (fun h_1 => ?_)
  · show en_wp k_X6_timesOne 19 [some (.inr (.inr (r_Squares, 0))), some (.inl a)] [] (srl σ []) _
    refine wp_run 5 (pc' := 24) (ls' := [some (.inr (.inr (r_Squares, 0))), some (.inl a)]) (st' := [.inl a, .inl 0, .inl 0, .inl a, .inr (.inr (r_Squares, 0))]) (σ' := srl σ []) rfl ?_
    refine wp_fnv (v := .inl (((a % p * p + 0 % p) * p + 0 % p) * p + a % p)) rfl rfl rfl rfl (ct_X6_square σ n D p a 0 0 a hI (by omega) (by omega) (by omega) (by omega)) ?_
    show en_wp k_X6_timesOne 27 [some (.inr (.inr (r_Squares, 0))), some (.inl a)] [.inl (((a % p * p + 0 % p) * p + 0 % p) * p + a % p)] (srl σ []) _
    exact wp_iret rfl ⟨(by repeat (first | rfl | rw [if_pos (by omega)] | rw [if_neg (by omega)])), rfl⟩
  · show en_wp k_X6_timesOne 8 [some (.inr (.inr (r_Squares, 0))), some (.inl a)] [] (srl σ []) _
    refine wp_run 3 (pc' := 13) (ls' := [some (.inr (.inr (r_Squares, 0))), some (.inl a)]) (st' := [.inl a, .inr (.inr (r_Shape0, 0))]) (σ' := srl σ []) rfl ?_
    refine wp_fnv (v := .inl (a % p)) rfl rfl rfl rfl (ct_X5_rest_Shape0 σ n D p a hI (by omega)) ?_
    show en_wp k_X6_timesOne 16 [some (.inr (.inr (r_Squares, 0))), some (.inl a)] [.inl (a % p)] (srl σ []) _
    have q_2 : 0 ≤ a % p ∧ a % p < p := sR_lt hO.2.2.2
    refine wp_run 1 (pc' := 27) (ls' := [some (.inr (.inr (r_Squares, 0))), some (.inl a)]) (st' := [.inl (a % p)]) (σ' := srl σ []) rfl ?_
    exact wp_iret rfl ⟨(by repeat (first | rfl | rw [if_pos (by omega)] | rw [if_neg (by omega)])), rfl⟩
