/-! contracts of methods, walked (written by wip/whole/walk.py from the annotations ann_get) -/
theorem ct_X10_amountNow (σ : en_m) : en_fn z_X10_amountNow [.inr (.inr (r_Tokens, 0))] σ (.inl ((σ r_Tokens_amount) 0)) := by
  show en_wp k_X10_amountNow 0 [some (.inr (.inr (r_Tokens, 0)))] [] (srl σ []) (fun r σ' => r = some (.inl ((σ r_Tokens_amount) 0)) ∧ σ' = σ)
  refine wp_run 2 (pc' := 4) (ls' := [some (.inr (.inr (r_Tokens, 0)))]) (st' := [.inl (σ r_Tokens_amount 0)]) (σ' := srl σ []) rfl ?_
  exact wp_iret rfl ⟨rfl, rfl⟩
theorem ct_X10_kindAt (σ : en_m) (k : Int) (h1 : i32 k) (h2 : 0 ≤ (σ r_Tokens_amount) 0 ∧ (σ r_Tokens_amount) 0 ≤ 400) : en_fn z_X10_kindAt [.inr (.inr (r_Tokens, 0)), .inl k] σ (.inl (if 0 ≤ k ∧ k < (σ r_Tokens_amount) 0 then (σ r_Tokens_kinds) k else 0)) := by
  show en_wp k_X10_kindAt 0 [some (.inr (.inr (r_Tokens, 0))), some (.inl k)] [] (srl σ []) (fun r σ' => r = some (.inl (if 0 ≤ k ∧ k < (σ r_Tokens_amount) 0 then (σ r_Tokens_kinds) k else 0)) ∧ σ' = σ)
  refine wp_run 1 (pc' := 1) (ls' := [some (.inr (.inr (r_Tokens, 0))), some (.inl k)]) (st' := [.inl k]) (σ' := srl σ []) rfl ?_
  refine wp_if_lt rfl (by omega) (fun h_1 => ?_) (fun h_1 => ?_)
  · show en_wp k_X10_kindAt 21 [some (.inr (.inr (r_Tokens, 0))), some (.inl k)] [] (srl σ []) _
    refine wp_run 1 (pc' := 22) (ls' := [some (.inr (.inr (r_Tokens, 0))), some (.inl k)]) (st' := [.inl 0]) (σ' := srl σ []) rfl ?_
    exact wp_iret rfl ⟨(by repeat (first | rfl | rw [if_pos (by omega)] | rw [if_neg (by omega)])), rfl⟩
  · show en_wp k_X10_kindAt 4 [some (.inr (.inr (r_Tokens, 0))), some (.inl k)] [] (srl σ []) _
    refine wp_run 3 (pc' := 9) (ls' := [some (.inr (.inr (r_Tokens, 0))), some (.inl k)]) (st' := [.inl (σ r_Tokens_amount 0), .inl k]) (σ' := srl σ []) rfl ?_
    refine wp_ic_ge rfl (by omega) (by omega) (fun h_2 => ?_) (fun h_2 => ?_)
    · show en_wp k_X10_kindAt 21 [some (.inr (.inr (r_Tokens, 0))), some (.inl k)] [] (srl σ []) _
      refine wp_run 1 (pc' := 22) (ls' := [some (.inr (.inr (r_Tokens, 0))), some (.inl k)]) (st' := [.inl 0]) (σ' := srl σ []) rfl ?_
      exact wp_iret rfl ⟨(by repeat (first | rfl | rw [if_pos (by omega)] | rw [if_neg (by omega)])), rfl⟩
    · show en_wp k_X10_kindAt 12 [some (.inr (.inr (r_Tokens, 0))), some (.inl k)] [] (srl σ []) _
      refine wp_run 3 (pc' := 17) (ls' := [some (.inr (.inr (r_Tokens, 0))), some (.inl k)]) (st' := [.inl k, .inr (.inr (r_Tokens_kinds, 0))]) (σ' := srl σ []) rfl ?_
      refine wp_iald0 rfl rfl (by omega) ?_
      show en_wp k_X10_kindAt 18 [some (.inr (.inr (r_Tokens, 0))), some (.inl k)] [.inl (σ r_Tokens_kinds k)] (srl σ []) _
      refine wp_run 1 (pc' := 22) (ls' := [some (.inr (.inr (r_Tokens, 0))), some (.inl k)]) (st' := [.inl (σ r_Tokens_kinds k)]) (σ' := srl σ []) rfl ?_
      exact wp_iret rfl ⟨(by repeat (first | rfl | rw [if_pos (by omega)] | rw [if_neg (by omega)])), rfl⟩
theorem ct_X10_placeAt (σ : en_m) (k : Int) (h1 : i32 k) (h2 : 0 ≤ (σ r_Tokens_amount) 0 ∧ (σ r_Tokens_amount) 0 ≤ 400) : en_fn z_X10_placeAt [.inr (.inr (r_Tokens, 0)), .inl k] σ (.inl (if 0 ≤ k ∧ k < (σ r_Tokens_amount) 0 then (σ r_Tokens_places) k else -1)) := by
  show en_wp k_X10_placeAt 0 [some (.inr (.inr (r_Tokens, 0))), some (.inl k)] [] (srl σ []) (fun r σ' => r = some (.inl (if 0 ≤ k ∧ k < (σ r_Tokens_amount) 0 then (σ r_Tokens_places) k else -1)) ∧ σ' = σ)
  refine wp_run 1 (pc' := 1) (ls' := [some (.inr (.inr (r_Tokens, 0))), some (.inl k)]) (st' := [.inl k]) (σ' := srl σ []) rfl ?_
  refine wp_if_lt rfl (by omega) (fun h_1 => ?_) (fun h_1 => ?_)
  · show en_wp k_X10_placeAt 21 [some (.inr (.inr (r_Tokens, 0))), some (.inl k)] [] (srl σ []) _
    refine wp_run 1 (pc' := 22) (ls' := [some (.inr (.inr (r_Tokens, 0))), some (.inl k)]) (st' := [.inl (-1)]) (σ' := srl σ []) rfl ?_
    exact wp_iret rfl ⟨(by repeat (first | rfl | rw [if_pos (by omega)] | rw [if_neg (by omega)])), rfl⟩
  · show en_wp k_X10_placeAt 4 [some (.inr (.inr (r_Tokens, 0))), some (.inl k)] [] (srl σ []) _
    refine wp_run 3 (pc' := 9) (ls' := [some (.inr (.inr (r_Tokens, 0))), some (.inl k)]) (st' := [.inl (σ r_Tokens_amount 0), .inl k]) (σ' := srl σ []) rfl ?_
    refine wp_ic_ge rfl (by omega) (by omega) (fun h_2 => ?_) (fun h_2 => ?_)
    · show en_wp k_X10_placeAt 21 [some (.inr (.inr (r_Tokens, 0))), some (.inl k)] [] (srl σ []) _
      refine wp_run 1 (pc' := 22) (ls' := [some (.inr (.inr (r_Tokens, 0))), some (.inl k)]) (st' := [.inl (-1)]) (σ' := srl σ []) rfl ?_
      exact wp_iret rfl ⟨(by repeat (first | rfl | rw [if_pos (by omega)] | rw [if_neg (by omega)])), rfl⟩
    · show en_wp k_X10_placeAt 12 [some (.inr (.inr (r_Tokens, 0))), some (.inl k)] [] (srl σ []) _
      refine wp_run 3 (pc' := 17) (ls' := [some (.inr (.inr (r_Tokens, 0))), some (.inl k)]) (st' := [.inl k, .inr (.inr (r_Tokens_places, 0))]) (σ' := srl σ []) rfl ?_
      refine wp_iald0 rfl rfl (by omega) ?_
      show en_wp k_X10_placeAt 18 [some (.inr (.inr (r_Tokens, 0))), some (.inl k)] [.inl (σ r_Tokens_places k)] (srl σ []) _
      refine wp_run 1 (pc' := 22) (ls' := [some (.inr (.inr (r_Tokens, 0))), some (.inl k)]) (st' := [.inl (σ r_Tokens_places k)]) (σ' := srl σ []) rfl ?_
      exact wp_iret rfl ⟨(by repeat (first | rfl | rw [if_pos (by omega)] | rw [if_neg (by omega)])), rfl⟩
theorem ct_X10_numberAt (σ : en_m) (k : Int) (h1 : i32 k) (h2 : 0 ≤ (σ r_Tokens_amount) 0 ∧ (σ r_Tokens_amount) 0 ≤ 400) : en_fn z_X10_numberAt [.inr (.inr (r_Tokens, 0)), .inl k] σ (.inl (if 0 ≤ k ∧ k < (σ r_Tokens_amount) 0 then (σ r_Tokens_numbers) k else 0)) := by
  show en_wp k_X10_numberAt 0 [some (.inr (.inr (r_Tokens, 0))), some (.inl k)] [] (srl σ []) (fun r σ' => r = some (.inl (if 0 ≤ k ∧ k < (σ r_Tokens_amount) 0 then (σ r_Tokens_numbers) k else 0)) ∧ σ' = σ)
  refine wp_run 1 (pc' := 1) (ls' := [some (.inr (.inr (r_Tokens, 0))), some (.inl k)]) (st' := [.inl k]) (σ' := srl σ []) rfl ?_
  refine wp_if_lt rfl (by omega) (fun h_1 => ?_) (fun h_1 => ?_)
  · show en_wp k_X10_numberAt 21 [some (.inr (.inr (r_Tokens, 0))), some (.inl k)] [] (srl σ []) _
    refine wp_run 1 (pc' := 22) (ls' := [some (.inr (.inr (r_Tokens, 0))), some (.inl k)]) (st' := [.inl 0]) (σ' := srl σ []) rfl ?_
    exact wp_iret rfl ⟨(by repeat (first | rfl | rw [if_pos (by omega)] | rw [if_neg (by omega)])), rfl⟩
  · show en_wp k_X10_numberAt 4 [some (.inr (.inr (r_Tokens, 0))), some (.inl k)] [] (srl σ []) _
    refine wp_run 3 (pc' := 9) (ls' := [some (.inr (.inr (r_Tokens, 0))), some (.inl k)]) (st' := [.inl (σ r_Tokens_amount 0), .inl k]) (σ' := srl σ []) rfl ?_
    refine wp_ic_ge rfl (by omega) (by omega) (fun h_2 => ?_) (fun h_2 => ?_)
    · show en_wp k_X10_numberAt 21 [some (.inr (.inr (r_Tokens, 0))), some (.inl k)] [] (srl σ []) _
      refine wp_run 1 (pc' := 22) (ls' := [some (.inr (.inr (r_Tokens, 0))), some (.inl k)]) (st' := [.inl 0]) (σ' := srl σ []) rfl ?_
      exact wp_iret rfl ⟨(by repeat (first | rfl | rw [if_pos (by omega)] | rw [if_neg (by omega)])), rfl⟩
    · show en_wp k_X10_numberAt 12 [some (.inr (.inr (r_Tokens, 0))), some (.inl k)] [] (srl σ []) _
      refine wp_run 3 (pc' := 17) (ls' := [some (.inr (.inr (r_Tokens, 0))), some (.inl k)]) (st' := [.inl k, .inr (.inr (r_Tokens_numbers, 0))]) (σ' := srl σ []) rfl ?_
      refine wp_iald0 rfl rfl (by omega) ?_
      show en_wp k_X10_numberAt 18 [some (.inr (.inr (r_Tokens, 0))), some (.inl k)] [.inl (σ r_Tokens_numbers k)] (srl σ []) _
      refine wp_run 1 (pc' := 22) (ls' := [some (.inr (.inr (r_Tokens, 0))), some (.inl k)]) (st' := [.inl (σ r_Tokens_numbers k)]) (σ' := srl σ []) rfl ?_
      exact wp_iret rfl ⟨(by repeat (first | rfl | rw [if_pos (by omega)] | rw [if_neg (by omega)])), rfl⟩
theorem ct_X10_packAt (σ : en_m) (k : Int) (h1 : i32 k) (h2 : 0 ≤ (σ r_Tokens_amount) 0 ∧ (σ r_Tokens_amount) 0 ≤ 400) : en_fn z_X10_packAt [.inr (.inr (r_Tokens, 0)), .inl k] σ (.inr (.inl (if 0 ≤ k ∧ k < (σ r_Tokens_amount) 0 then (σ r_Tokens_packed) k else 0))) := by
  show en_wp k_X10_packAt 0 [some (.inr (.inr (r_Tokens, 0))), some (.inl k)] [] (srl σ []) (fun r σ' => r = some (.inr (.inl (if 0 ≤ k ∧ k < (σ r_Tokens_amount) 0 then (σ r_Tokens_packed) k else 0))) ∧ σ' = σ)
  refine wp_run 1 (pc' := 1) (ls' := [some (.inr (.inr (r_Tokens, 0))), some (.inl k)]) (st' := [.inl k]) (σ' := srl σ []) rfl ?_
  refine wp_if_lt rfl (by omega) (fun h_1 => ?_) (fun h_1 => ?_)
  · show en_wp k_X10_packAt 21 [some (.inr (.inr (r_Tokens, 0))), some (.inl k)] [] (srl σ []) _
    refine wp_run 1 (pc' := 22) (ls' := [some (.inr (.inr (r_Tokens, 0))), some (.inl k)]) (st' := [.inr (.inl 0)]) (σ' := srl σ []) rfl ?_
    exact wp_lret rfl ⟨(by repeat (first | rfl | rw [if_pos (by omega)] | rw [if_neg (by omega)])), rfl⟩
  · show en_wp k_X10_packAt 4 [some (.inr (.inr (r_Tokens, 0))), some (.inl k)] [] (srl σ []) _
    refine wp_run 3 (pc' := 9) (ls' := [some (.inr (.inr (r_Tokens, 0))), some (.inl k)]) (st' := [.inl (σ r_Tokens_amount 0), .inl k]) (σ' := srl σ []) rfl ?_
    refine wp_ic_ge rfl (by omega) (by omega) (fun h_2 => ?_) (fun h_2 => ?_)
    · show en_wp k_X10_packAt 21 [some (.inr (.inr (r_Tokens, 0))), some (.inl k)] [] (srl σ []) _
      refine wp_run 1 (pc' := 22) (ls' := [some (.inr (.inr (r_Tokens, 0))), some (.inl k)]) (st' := [.inr (.inl 0)]) (σ' := srl σ []) rfl ?_
      exact wp_lret rfl ⟨(by repeat (first | rfl | rw [if_pos (by omega)] | rw [if_neg (by omega)])), rfl⟩
    · show en_wp k_X10_packAt 12 [some (.inr (.inr (r_Tokens, 0))), some (.inl k)] [] (srl σ []) _
      refine wp_run 3 (pc' := 17) (ls' := [some (.inr (.inr (r_Tokens, 0))), some (.inl k)]) (st' := [.inl k, .inr (.inr (r_Tokens_packed, 0))]) (σ' := srl σ []) rfl ?_
      refine wp_lald0 rfl rfl (by omega) ?_
      show en_wp k_X10_packAt 18 [some (.inr (.inr (r_Tokens, 0))), some (.inl k)] [.inr (.inl (σ r_Tokens_packed k))] (srl σ []) _
      refine wp_run 1 (pc' := 22) (ls' := [some (.inr (.inr (r_Tokens, 0))), some (.inl k)]) (st' := [.inr (.inl (σ r_Tokens_packed k))]) (σ' := srl σ []) rfl ?_
      exact wp_lret rfl ⟨(by repeat (first | rfl | rw [if_pos (by omega)] | rw [if_neg (by omega)])), rfl⟩
theorem ct_X10_faultPlace (σ : en_m) : en_fn z_X10_faultPlace [.inr (.inr (r_Tokens, 0))] σ (.inl ((σ r_Tokens_badPlace) 0)) := by
  show en_wp k_X10_faultPlace 0 [some (.inr (.inr (r_Tokens, 0)))] [] (srl σ []) (fun r σ' => r = some (.inl ((σ r_Tokens_badPlace) 0)) ∧ σ' = σ)
  refine wp_run 2 (pc' := 4) (ls' := [some (.inr (.inr (r_Tokens, 0)))]) (st' := [.inl (σ r_Tokens_badPlace 0)]) (σ' := srl σ []) rfl ?_
  exact wp_iret rfl ⟨rfl, rfl⟩
theorem ct_X10_isTooMuch (σ : en_m) (h1 : i32 ((σ r_Tokens_amount) 0)) (h2 : i32 ((σ r_Tokens_lettersSeen) 0)) (h3 : i32 ((σ r_Tokens_lawsSeen) 0)) (h4 : i32 ((σ r_Tokens_depth) 0)) : en_fn z_X10_isTooMuch [.inr (.inr (r_Tokens, 0))] σ (.inl (bI (400 ≤ (σ r_Tokens_amount) 0 ∨ 4 < (σ r_Tokens_lettersSeen) 0 ∨ 8 < (σ r_Tokens_lawsSeen) 0 ∨ 4 < (σ r_Tokens_depth) 0))) := by
  show en_wp k_X10_isTooMuch 0 [some (.inr (.inr (r_Tokens, 0)))] [] (srl σ []) (fun r σ' => r = some (.inl (bI (400 ≤ (σ r_Tokens_amount) 0 ∨ 4 < (σ r_Tokens_lettersSeen) 0 ∨ 8 < (σ r_Tokens_lawsSeen) 0 ∨ 4 < (σ r_Tokens_depth) 0))) ∧ σ' = σ)
  refine wp_run 3 (pc' := 7) (ls' := [some (.inr (.inr (r_Tokens, 0)))]) (st' := [.inl 400, .inl (σ r_Tokens_amount 0)]) (σ' := srl σ []) rfl ?_
  refine wp_ic_ge rfl (by omega) (by omega) (fun h_1 => ?_) (fun h_1 => ?_)
  · show en_wp k_X10_isTooMuch 35 [some (.inr (.inr (r_Tokens, 0)))] [] (srl σ []) _
    refine wp_run 2 (pc' := 40) (ls' := [some (.inr (.inr (r_Tokens, 0)))]) (st' := [.inl 1]) (σ' := srl σ []) rfl ?_
    exact wp_zret rfl (.inr rfl) ⟨(by first | rfl | (rw [bI_t (by omega)]) | (rw [bI_f (by omega)])), rfl⟩
  · show en_wp k_X10_isTooMuch 10 [some (.inr (.inr (r_Tokens, 0)))] [] (srl σ []) _
    refine wp_run 3 (pc' := 15) (ls' := [some (.inr (.inr (r_Tokens, 0)))]) (st' := [.inl 4, .inl (σ r_Tokens_lettersSeen 0)]) (σ' := srl σ []) rfl ?_
    refine wp_ic_gt rfl (by omega) (by omega) (fun h_2 => ?_) (fun h_2 => ?_)
    · show en_wp k_X10_isTooMuch 35 [some (.inr (.inr (r_Tokens, 0)))] [] (srl σ []) _
      refine wp_run 2 (pc' := 40) (ls' := [some (.inr (.inr (r_Tokens, 0)))]) (st' := [.inl 1]) (σ' := srl σ []) rfl ?_
      exact wp_zret rfl (.inr rfl) ⟨(by first | rfl | (rw [bI_t (by omega)]) | (rw [bI_f (by omega)])), rfl⟩
    · show en_wp k_X10_isTooMuch 18 [some (.inr (.inr (r_Tokens, 0)))] [] (srl σ []) _
      refine wp_run 3 (pc' := 24) (ls' := [some (.inr (.inr (r_Tokens, 0)))]) (st' := [.inl 8, .inl (σ r_Tokens_lawsSeen 0)]) (σ' := srl σ []) rfl ?_
      refine wp_ic_gt rfl (by omega) (by omega) (fun h_3 => ?_) (fun h_3 => ?_)
      · show en_wp k_X10_isTooMuch 35 [some (.inr (.inr (r_Tokens, 0)))] [] (srl σ []) _
        refine wp_run 2 (pc' := 40) (ls' := [some (.inr (.inr (r_Tokens, 0)))]) (st' := [.inl 1]) (σ' := srl σ []) rfl ?_
        exact wp_zret rfl (.inr rfl) ⟨(by first | rfl | (rw [bI_t (by omega)]) | (rw [bI_f (by omega)])), rfl⟩
      · show en_wp k_X10_isTooMuch 27 [some (.inr (.inr (r_Tokens, 0)))] [] (srl σ []) _
        refine wp_run 3 (pc' := 32) (ls' := [some (.inr (.inr (r_Tokens, 0)))]) (st' := [.inl 4, .inl (σ r_Tokens_depth 0)]) (σ' := srl σ []) rfl ?_
        refine wp_ic_le rfl (by omega) (by omega) (fun h_4 => ?_) (fun h_4 => ?_)
        · show en_wp k_X10_isTooMuch 39 [some (.inr (.inr (r_Tokens, 0)))] [] (srl σ []) _
          refine wp_run 1 (pc' := 40) (ls' := [some (.inr (.inr (r_Tokens, 0)))]) (st' := [.inl 0]) (σ' := srl σ []) rfl ?_
          exact wp_zret rfl (.inl rfl) ⟨(by first | rfl | (rw [bI_t (by omega)]) | (rw [bI_f (by omega)])), rfl⟩
        · show en_wp k_X10_isTooMuch 35 [some (.inr (.inr (r_Tokens, 0)))] [] (srl σ []) _
          refine wp_run 2 (pc' := 40) (ls' := [some (.inr (.inr (r_Tokens, 0)))]) (st' := [.inl 1]) (σ' := srl σ []) rfl ?_
          exact wp_zret rfl (.inr rfl) ⟨(by first | rfl | (rw [bI_t (by omega)]) | (rw [bI_f (by omega)])), rfl⟩
theorem ct_X10_isLetter (σ : en_m) (c : Int) (h1 : i32 c) : en_fn z_X10_isLetter [.inl c] σ (.inl (bI (97 ≤ c ∧ c ≤ 122))) := by
  show en_wp k_X10_isLetter 0 [some (.inl c)] [] (srl σ []) (fun r σ' => r = some (.inl (bI (97 ≤ c ∧ c ≤ 122))) ∧ σ' = σ)
  refine wp_run 2 (pc' := 3) (ls' := [some (.inl c)]) (st' := [.inl 97, .inl c]) (σ' := srl σ []) rfl ?_
  refine wp_ic_lt rfl (by omega) (by omega) (fun h_1 => ?_) (fun h_1 => ?_)
  · show en_wp k_X10_isLetter 16 [some (.inl c)] [] (srl σ []) _
    refine wp_run 1 (pc' := 17) (ls' := [some (.inl c)]) (st' := [.inl 0]) (σ' := srl σ []) rfl ?_
    exact wp_zret rfl (.inl rfl) ⟨(by first | rw [bI_t (by omega)] | rw [bI_f (by omega)]), rfl⟩
  · show en_wp k_X10_isLetter 6 [some (.inl c)] [] (srl σ []) _
    refine wp_run 2 (pc' := 9) (ls' := [some (.inl c)]) (st' := [.inl 122, .inl c]) (σ' := srl σ []) rfl ?_
    refine wp_ic_gt rfl (by omega) (by omega) (fun h_2 => ?_) (fun h_2 => ?_)
    · show en_wp k_X10_isLetter 16 [some (.inl c)] [] (srl σ []) _
      refine wp_run 1 (pc' := 17) (ls' := [some (.inl c)]) (st' := [.inl 0]) (σ' := srl σ []) rfl ?_
      exact wp_zret rfl (.inl rfl) ⟨(by first | rw [bI_t (by omega)] | rw [bI_f (by omega)]), rfl⟩
    · show en_wp k_X10_isLetter 12 [some (.inl c)] [] (srl σ []) _
      refine wp_run 2 (pc' := 17) (ls' := [some (.inl c)]) (st' := [.inl 1]) (σ' := srl σ []) rfl ?_
      exact wp_zret rfl (.inr rfl) ⟨(by first | rw [bI_t (by omega)] | rw [bI_f (by omega)]), rfl⟩
theorem ct_X10_isDigit (σ : en_m) (c : Int) (h1 : i32 c) : en_fn z_X10_isDigit [.inl c] σ (.inl (bI (48 ≤ c ∧ c ≤ 57))) := by
  show en_wp k_X10_isDigit 0 [some (.inl c)] [] (srl σ []) (fun r σ' => r = some (.inl (bI (48 ≤ c ∧ c ≤ 57))) ∧ σ' = σ)
  refine wp_run 2 (pc' := 3) (ls' := [some (.inl c)]) (st' := [.inl 48, .inl c]) (σ' := srl σ []) rfl ?_
  refine wp_ic_lt rfl (by omega) (by omega) (fun h_1 => ?_) (fun h_1 => ?_)
  · show en_wp k_X10_isDigit 16 [some (.inl c)] [] (srl σ []) _
    refine wp_run 1 (pc' := 17) (ls' := [some (.inl c)]) (st' := [.inl 0]) (σ' := srl σ []) rfl ?_
    exact wp_zret rfl (.inl rfl) ⟨(by first | rw [bI_t (by omega)] | rw [bI_f (by omega)]), rfl⟩
  · show en_wp k_X10_isDigit 6 [some (.inl c)] [] (srl σ []) _
    refine wp_run 2 (pc' := 9) (ls' := [some (.inl c)]) (st' := [.inl 57, .inl c]) (σ' := srl σ []) rfl ?_
    refine wp_ic_gt rfl (by omega) (by omega) (fun h_2 => ?_) (fun h_2 => ?_)
    · show en_wp k_X10_isDigit 16 [some (.inl c)] [] (srl σ []) _
      refine wp_run 1 (pc' := 17) (ls' := [some (.inl c)]) (st' := [.inl 0]) (σ' := srl σ []) rfl ?_
      exact wp_zret rfl (.inl rfl) ⟨(by first | rw [bI_t (by omega)] | rw [bI_f (by omega)]), rfl⟩
    · show en_wp k_X10_isDigit 12 [some (.inl c)] [] (srl σ []) _
      refine wp_run 2 (pc' := 17) (ls' := [some (.inl c)]) (st' := [.inl 1]) (σ' := srl σ []) rfl ?_
      exact wp_zret rfl (.inr rfl) ⟨(by first | rw [bI_t (by omega)] | rw [bI_f (by omega)]), rfl⟩
theorem ct_X12_isLetter (σ : en_m) (c : Int) (h1 : i32 c) : en_fn z_X12_isLetter [.inl c] σ (.inl (bI (97 ≤ c ∧ c ≤ 122))) := by
  show en_wp k_X12_isLetter 0 [some (.inl c)] [] (srl σ []) (fun r σ' => r = some (.inl (bI (97 ≤ c ∧ c ≤ 122))) ∧ σ' = σ)
  refine wp_run 2 (pc' := 3) (ls' := [some (.inl c)]) (st' := [.inl 97, .inl c]) (σ' := srl σ []) rfl ?_
  refine wp_ic_lt rfl (by omega) (by omega) (fun h_1 => ?_) (fun h_1 => ?_)
  · show en_wp k_X12_isLetter 16 [some (.inl c)] [] (srl σ []) _
    refine wp_run 1 (pc' := 17) (ls' := [some (.inl c)]) (st' := [.inl 0]) (σ' := srl σ []) rfl ?_
    exact wp_zret rfl (.inl rfl) ⟨(by first | rw [bI_t (by omega)] | rw [bI_f (by omega)]), rfl⟩
  · show en_wp k_X12_isLetter 6 [some (.inl c)] [] (srl σ []) _
    refine wp_run 2 (pc' := 9) (ls' := [some (.inl c)]) (st' := [.inl 122, .inl c]) (σ' := srl σ []) rfl ?_
    refine wp_ic_gt rfl (by omega) (by omega) (fun h_2 => ?_) (fun h_2 => ?_)
    · show en_wp k_X12_isLetter 16 [some (.inl c)] [] (srl σ []) _
      refine wp_run 1 (pc' := 17) (ls' := [some (.inl c)]) (st' := [.inl 0]) (σ' := srl σ []) rfl ?_
      exact wp_zret rfl (.inl rfl) ⟨(by first | rw [bI_t (by omega)] | rw [bI_f (by omega)]), rfl⟩
    · show en_wp k_X12_isLetter 12 [some (.inl c)] [] (srl σ []) _
      refine wp_run 2 (pc' := 17) (ls' := [some (.inl c)]) (st' := [.inl 1]) (σ' := srl σ []) rfl ?_
      exact wp_zret rfl (.inr rfl) ⟨(by first | rw [bI_t (by omega)] | rw [bI_f (by omega)]), rfl⟩
theorem ct_X12_isDigit (σ : en_m) (c : Int) (h1 : i32 c) : en_fn z_X12_isDigit [.inl c] σ (.inl (bI (48 ≤ c ∧ c ≤ 57))) := by
  show en_wp k_X12_isDigit 0 [some (.inl c)] [] (srl σ []) (fun r σ' => r = some (.inl (bI (48 ≤ c ∧ c ≤ 57))) ∧ σ' = σ)
  refine wp_run 2 (pc' := 3) (ls' := [some (.inl c)]) (st' := [.inl 48, .inl c]) (σ' := srl σ []) rfl ?_
  refine wp_ic_lt rfl (by omega) (by omega) (fun h_1 => ?_) (fun h_1 => ?_)
  · show en_wp k_X12_isDigit 16 [some (.inl c)] [] (srl σ []) _
    refine wp_run 1 (pc' := 17) (ls' := [some (.inl c)]) (st' := [.inl 0]) (σ' := srl σ []) rfl ?_
    exact wp_zret rfl (.inl rfl) ⟨(by first | rw [bI_t (by omega)] | rw [bI_f (by omega)]), rfl⟩
  · show en_wp k_X12_isDigit 6 [some (.inl c)] [] (srl σ []) _
    refine wp_run 2 (pc' := 9) (ls' := [some (.inl c)]) (st' := [.inl 57, .inl c]) (σ' := srl σ []) rfl ?_
    refine wp_ic_gt rfl (by omega) (by omega) (fun h_2 => ?_) (fun h_2 => ?_)
    · show en_wp k_X12_isDigit 16 [some (.inl c)] [] (srl σ []) _
      refine wp_run 1 (pc' := 17) (ls' := [some (.inl c)]) (st' := [.inl 0]) (σ' := srl σ []) rfl ?_
      exact wp_zret rfl (.inl rfl) ⟨(by first | rw [bI_t (by omega)] | rw [bI_f (by omega)]), rfl⟩
    · show en_wp k_X12_isDigit 12 [some (.inl c)] [] (srl σ []) _
      refine wp_run 2 (pc' := 17) (ls' := [some (.inl c)]) (st' := [.inl 1]) (σ' := srl σ []) rfl ?_
      exact wp_zret rfl (.inr rfl) ⟨(by first | rw [bI_t (by omega)] | rw [bI_f (by omega)]), rfl⟩
theorem ct_X9_lawsTold (σ : en_m) : en_fn z_X9_lawsTold [.inr (.inr (r_Telling, 0))] σ (.inl ((σ r_Telling_lawsNow) 0)) := by
  show en_wp k_X9_lawsTold 0 [some (.inr (.inr (r_Telling, 0)))] [] (srl σ []) (fun r σ' => r = some (.inl ((σ r_Telling_lawsNow) 0)) ∧ σ' = σ)
  refine wp_run 2 (pc' := 4) (ls' := [some (.inr (.inr (r_Telling, 0)))]) (st' := [.inl (σ r_Telling_lawsNow 0)]) (σ' := srl σ []) rfl ?_
  exact wp_iret rfl ⟨rfl, rfl⟩
theorem ct_X9_lawLength (σ : en_m) (k : Int) (h1 : i32 k) (h2 : 0 ≤ (σ r_Telling_lawsNow) 0 ∧ (σ r_Telling_lawsNow) 0 ≤ 8) : en_fn z_X9_lawLength [.inr (.inr (r_Telling, 0)), .inl k] σ (.inl (if 0 ≤ k ∧ k < (σ r_Telling_lawsNow) 0 then (σ r_Telling_lengths) k else 0)) := by
  show en_wp k_X9_lawLength 0 [some (.inr (.inr (r_Telling, 0))), some (.inl k)] [] (srl σ []) (fun r σ' => r = some (.inl (if 0 ≤ k ∧ k < (σ r_Telling_lawsNow) 0 then (σ r_Telling_lengths) k else 0)) ∧ σ' = σ)
  refine wp_run 1 (pc' := 1) (ls' := [some (.inr (.inr (r_Telling, 0))), some (.inl k)]) (st' := [.inl k]) (σ' := srl σ []) rfl ?_
  refine wp_if_lt rfl (by omega) (fun h_1 => ?_) (fun h_1 => ?_)
  · show en_wp k_X9_lawLength 21 [some (.inr (.inr (r_Telling, 0))), some (.inl k)] [] (srl σ []) _
    refine wp_run 1 (pc' := 22) (ls' := [some (.inr (.inr (r_Telling, 0))), some (.inl k)]) (st' := [.inl 0]) (σ' := srl σ []) rfl ?_
    exact wp_iret rfl ⟨(by repeat (first | rfl | rw [if_pos (by omega)] | rw [if_neg (by omega)])), rfl⟩
  · show en_wp k_X9_lawLength 4 [some (.inr (.inr (r_Telling, 0))), some (.inl k)] [] (srl σ []) _
    refine wp_run 3 (pc' := 9) (ls' := [some (.inr (.inr (r_Telling, 0))), some (.inl k)]) (st' := [.inl (σ r_Telling_lawsNow 0), .inl k]) (σ' := srl σ []) rfl ?_
    refine wp_ic_ge rfl (by omega) (by omega) (fun h_2 => ?_) (fun h_2 => ?_)
    · show en_wp k_X9_lawLength 21 [some (.inr (.inr (r_Telling, 0))), some (.inl k)] [] (srl σ []) _
      refine wp_run 1 (pc' := 22) (ls' := [some (.inr (.inr (r_Telling, 0))), some (.inl k)]) (st' := [.inl 0]) (σ' := srl σ []) rfl ?_
      exact wp_iret rfl ⟨(by repeat (first | rfl | rw [if_pos (by omega)] | rw [if_neg (by omega)])), rfl⟩
    · show en_wp k_X9_lawLength 12 [some (.inr (.inr (r_Telling, 0))), some (.inl k)] [] (srl σ []) _
      refine wp_run 3 (pc' := 17) (ls' := [some (.inr (.inr (r_Telling, 0))), some (.inl k)]) (st' := [.inl k, .inr (.inr (r_Telling_lengths, 0))]) (σ' := srl σ []) rfl ?_
      refine wp_iald0 rfl rfl (by omega) ?_
      show en_wp k_X9_lawLength 18 [some (.inr (.inr (r_Telling, 0))), some (.inl k)] [.inl (σ r_Telling_lengths k)] (srl σ []) _
      refine wp_run 1 (pc' := 22) (ls' := [some (.inr (.inr (r_Telling, 0))), some (.inl k)]) (st' := [.inl (σ r_Telling_lengths k)]) (σ' := srl σ []) rfl ?_
      exact wp_iret rfl ⟨(by repeat (first | rfl | rw [if_pos (by omega)] | rw [if_neg (by omega)])), rfl⟩
theorem ct_X9_faultPlace (σ : en_m) : en_fn z_X9_faultPlace [.inr (.inr (r_Telling, 0))] σ (.inl ((σ r_Telling_badPlace) 0)) := by
  show en_wp k_X9_faultPlace 0 [some (.inr (.inr (r_Telling, 0)))] [] (srl σ []) (fun r σ' => r = some (.inl ((σ r_Telling_badPlace) 0)) ∧ σ' = σ)
  refine wp_run 2 (pc' := 4) (ls' := [some (.inr (.inr (r_Telling, 0)))]) (st' := [.inl (σ r_Telling_badPlace 0)]) (σ' := srl σ []) rfl ?_
  exact wp_iret rfl ⟨rfl, rfl⟩
theorem ct_X3_lawsNow_Nought0 (σ : en_m) : en_fn z_X3_lawsNow [.inr (.inr (r_Nought0, 0))] σ (.inl ((σ r_Nought0_lawsNow) 0)) := by
  show en_wp k_X3_lawsNow 0 [some (.inr (.inr (r_Nought0, 0)))] [] (srl σ []) (fun r σ' => r = some (.inl ((σ r_Nought0_lawsNow) 0)) ∧ σ' = σ)
  refine wp_run 2 (pc' := 4) (ls' := [some (.inr (.inr (r_Nought0, 0)))]) (st' := [.inl (σ r_Nought0_lawsNow 0)]) (σ' := srl σ []) rfl ?_
  exact wp_iret rfl ⟨rfl, rfl⟩
theorem ct_X3_lawLength_Nought0 (σ : en_m) (k : Int) (h1 : i32 k) (h2 : 0 ≤ (σ r_Nought0_lawsNow) 0 ∧ (σ r_Nought0_lawsNow) 0 ≤ 8) : en_fn z_X3_lawLength [.inr (.inr (r_Nought0, 0)), .inl k] σ (.inl (if 0 ≤ k ∧ k < (σ r_Nought0_lawsNow) 0 then (σ r_Nought0_lengths) k else 0)) := by
  show en_wp k_X3_lawLength 0 [some (.inr (.inr (r_Nought0, 0))), some (.inl k)] [] (srl σ []) (fun r σ' => r = some (.inl (if 0 ≤ k ∧ k < (σ r_Nought0_lawsNow) 0 then (σ r_Nought0_lengths) k else 0)) ∧ σ' = σ)
  refine wp_run 1 (pc' := 1) (ls' := [some (.inr (.inr (r_Nought0, 0))), some (.inl k)]) (st' := [.inl k]) (σ' := srl σ []) rfl ?_
  refine wp_if_lt rfl (by omega) (fun h_1 => ?_) (fun h_1 => ?_)
  · show en_wp k_X3_lawLength 21 [some (.inr (.inr (r_Nought0, 0))), some (.inl k)] [] (srl σ []) _
    refine wp_run 1 (pc' := 22) (ls' := [some (.inr (.inr (r_Nought0, 0))), some (.inl k)]) (st' := [.inl 0]) (σ' := srl σ []) rfl ?_
    exact wp_iret rfl ⟨(by repeat (first | rfl | rw [if_pos (by omega)] | rw [if_neg (by omega)])), rfl⟩
  · show en_wp k_X3_lawLength 4 [some (.inr (.inr (r_Nought0, 0))), some (.inl k)] [] (srl σ []) _
    refine wp_run 3 (pc' := 9) (ls' := [some (.inr (.inr (r_Nought0, 0))), some (.inl k)]) (st' := [.inl (σ r_Nought0_lawsNow 0), .inl k]) (σ' := srl σ []) rfl ?_
    refine wp_ic_ge rfl (by omega) (by omega) (fun h_2 => ?_) (fun h_2 => ?_)
    · show en_wp k_X3_lawLength 21 [some (.inr (.inr (r_Nought0, 0))), some (.inl k)] [] (srl σ []) _
      refine wp_run 1 (pc' := 22) (ls' := [some (.inr (.inr (r_Nought0, 0))), some (.inl k)]) (st' := [.inl 0]) (σ' := srl σ []) rfl ?_
      exact wp_iret rfl ⟨(by repeat (first | rfl | rw [if_pos (by omega)] | rw [if_neg (by omega)])), rfl⟩
    · show en_wp k_X3_lawLength 12 [some (.inr (.inr (r_Nought0, 0))), some (.inl k)] [] (srl σ []) _
      refine wp_run 3 (pc' := 17) (ls' := [some (.inr (.inr (r_Nought0, 0))), some (.inl k)]) (st' := [.inl k, .inr (.inr (r_Nought0_lengths, 0))]) (σ' := srl σ []) rfl ?_
      refine wp_iald0 rfl rfl (by omega) ?_
      show en_wp k_X3_lawLength 18 [some (.inr (.inr (r_Nought0, 0))), some (.inl k)] [.inl (σ r_Nought0_lengths k)] (srl σ []) _
      refine wp_run 1 (pc' := 22) (ls' := [some (.inr (.inr (r_Nought0, 0))), some (.inl k)]) (st' := [.inl (σ r_Nought0_lengths k)]) (σ' := srl σ []) rfl ?_
      exact wp_iret rfl ⟨(by repeat (first | rfl | rw [if_pos (by omega)] | rw [if_neg (by omega)])), rfl⟩
theorem ct_X3_lawsNow_Nought1 (σ : en_m) : en_fn z_X3_lawsNow [.inr (.inr (r_Nought1, 0))] σ (.inl ((σ r_Nought1_lawsNow) 0)) := by
  show en_wp k_X3_lawsNow 0 [some (.inr (.inr (r_Nought1, 0)))] [] (srl σ []) (fun r σ' => r = some (.inl ((σ r_Nought1_lawsNow) 0)) ∧ σ' = σ)
  refine wp_run 2 (pc' := 4) (ls' := [some (.inr (.inr (r_Nought1, 0)))]) (st' := [.inl (σ r_Nought1_lawsNow 0)]) (σ' := srl σ []) rfl ?_
  exact wp_iret rfl ⟨rfl, rfl⟩
theorem ct_X3_lawLength_Nought1 (σ : en_m) (k : Int) (h1 : i32 k) (h2 : 0 ≤ (σ r_Nought1_lawsNow) 0 ∧ (σ r_Nought1_lawsNow) 0 ≤ 8) : en_fn z_X3_lawLength [.inr (.inr (r_Nought1, 0)), .inl k] σ (.inl (if 0 ≤ k ∧ k < (σ r_Nought1_lawsNow) 0 then (σ r_Nought1_lengths) k else 0)) := by
  show en_wp k_X3_lawLength 0 [some (.inr (.inr (r_Nought1, 0))), some (.inl k)] [] (srl σ []) (fun r σ' => r = some (.inl (if 0 ≤ k ∧ k < (σ r_Nought1_lawsNow) 0 then (σ r_Nought1_lengths) k else 0)) ∧ σ' = σ)
  refine wp_run 1 (pc' := 1) (ls' := [some (.inr (.inr (r_Nought1, 0))), some (.inl k)]) (st' := [.inl k]) (σ' := srl σ []) rfl ?_
  refine wp_if_lt rfl (by omega) (fun h_1 => ?_) (fun h_1 => ?_)
  · show en_wp k_X3_lawLength 21 [some (.inr (.inr (r_Nought1, 0))), some (.inl k)] [] (srl σ []) _
    refine wp_run 1 (pc' := 22) (ls' := [some (.inr (.inr (r_Nought1, 0))), some (.inl k)]) (st' := [.inl 0]) (σ' := srl σ []) rfl ?_
    exact wp_iret rfl ⟨(by repeat (first | rfl | rw [if_pos (by omega)] | rw [if_neg (by omega)])), rfl⟩
  · show en_wp k_X3_lawLength 4 [some (.inr (.inr (r_Nought1, 0))), some (.inl k)] [] (srl σ []) _
    refine wp_run 3 (pc' := 9) (ls' := [some (.inr (.inr (r_Nought1, 0))), some (.inl k)]) (st' := [.inl (σ r_Nought1_lawsNow 0), .inl k]) (σ' := srl σ []) rfl ?_
    refine wp_ic_ge rfl (by omega) (by omega) (fun h_2 => ?_) (fun h_2 => ?_)
    · show en_wp k_X3_lawLength 21 [some (.inr (.inr (r_Nought1, 0))), some (.inl k)] [] (srl σ []) _
      refine wp_run 1 (pc' := 22) (ls' := [some (.inr (.inr (r_Nought1, 0))), some (.inl k)]) (st' := [.inl 0]) (σ' := srl σ []) rfl ?_
      exact wp_iret rfl ⟨(by repeat (first | rfl | rw [if_pos (by omega)] | rw [if_neg (by omega)])), rfl⟩
    · show en_wp k_X3_lawLength 12 [some (.inr (.inr (r_Nought1, 0))), some (.inl k)] [] (srl σ []) _
      refine wp_run 3 (pc' := 17) (ls' := [some (.inr (.inr (r_Nought1, 0))), some (.inl k)]) (st' := [.inl k, .inr (.inr (r_Nought1_lengths, 0))]) (σ' := srl σ []) rfl ?_
      refine wp_iald0 rfl rfl (by omega) ?_
      show en_wp k_X3_lawLength 18 [some (.inr (.inr (r_Nought1, 0))), some (.inl k)] [.inl (σ r_Nought1_lengths k)] (srl σ []) _
      refine wp_run 1 (pc' := 22) (ls' := [some (.inr (.inr (r_Nought1, 0))), some (.inl k)]) (st' := [.inl (σ r_Nought1_lengths k)]) (σ' := srl σ []) rfl ?_
      exact wp_iret rfl ⟨(by repeat (first | rfl | rw [if_pos (by omega)] | rw [if_neg (by omega)])), rfl⟩
