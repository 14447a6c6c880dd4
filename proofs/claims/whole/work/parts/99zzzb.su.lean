/-! contracts of methods, walked (written by wip/whole/walk.py from the annotations ann_m67) -/
theorem ct_X10_kindAt_p (σ : en_m) (k : Int) (h1 : 0 ≤ k ∧ k < (σ r_Tokens_amount) 0) (h2 : 0 ≤ (σ r_Tokens_amount) 0 ∧ (σ r_Tokens_amount) 0 ≤ 400) : en_fn z_X10_kindAt [.inr (.inr (r_Tokens, 0)), .inl k] σ (.inl ((σ r_Tokens_kinds) k)) := by
  show en_wp k_X10_kindAt 0 [some (.inr (.inr (r_Tokens, 0))), some (.inl k)] [] (srl σ []) (fun r σ' => r = some (.inl ((σ r_Tokens_kinds) k)) ∧ σ' = σ)
  refine wp_run 1 (pc' := 1) (ls' := [some (.inr (.inr (r_Tokens, 0))), some (.inl k)]) (st' := [.inl k]) (σ' := srl σ []) rfl ?_
  refine wp_if_lt rfl (by omega) (fun h_1 => ?_) (fun h_1 => ?_)
  · show en_wp k_X10_kindAt 21 [some (.inr (.inr (r_Tokens, 0))), some (.inl k)] [] (srl σ []) _
    refine wp_run 1 (pc' := 22) (ls' := [some (.inr (.inr (r_Tokens, 0))), some (.inl k)]) (st' := [.inl 0]) (σ' := srl σ []) rfl ?_
    exact wp_iret rfl ⟨(by first | rfl | (exfalso; omega)), rfl⟩
  · show en_wp k_X10_kindAt 4 [some (.inr (.inr (r_Tokens, 0))), some (.inl k)] [] (srl σ []) _
    refine wp_run 3 (pc' := 9) (ls' := [some (.inr (.inr (r_Tokens, 0))), some (.inl k)]) (st' := [.inl (σ r_Tokens_amount 0), .inl k]) (σ' := srl σ []) rfl ?_
    refine wp_ic_ge rfl (by omega) (by omega) (fun h_2 => ?_) (fun h_2 => ?_)
    · show en_wp k_X10_kindAt 21 [some (.inr (.inr (r_Tokens, 0))), some (.inl k)] [] (srl σ []) _
      refine wp_run 1 (pc' := 22) (ls' := [some (.inr (.inr (r_Tokens, 0))), some (.inl k)]) (st' := [.inl 0]) (σ' := srl σ []) rfl ?_
      exact wp_iret rfl ⟨(by first | rfl | (exfalso; omega)), rfl⟩
    · show en_wp k_X10_kindAt 12 [some (.inr (.inr (r_Tokens, 0))), some (.inl k)] [] (srl σ []) _
      refine wp_run 3 (pc' := 17) (ls' := [some (.inr (.inr (r_Tokens, 0))), some (.inl k)]) (st' := [.inl k, .inr (.inr (r_Tokens_kinds, 0))]) (σ' := srl σ []) rfl ?_
      refine wp_iald0 rfl rfl (by omega) ?_
      show en_wp k_X10_kindAt 18 [some (.inr (.inr (r_Tokens, 0))), some (.inl k)] [.inl (σ r_Tokens_kinds k)] (srl σ []) _
      refine wp_run 1 (pc' := 22) (ls' := [some (.inr (.inr (r_Tokens, 0))), some (.inl k)]) (st' := [.inl (σ r_Tokens_kinds k)]) (σ' := srl σ []) rfl ?_
      exact wp_iret rfl ⟨(by first | rfl | (exfalso; omega)), rfl⟩
theorem ct_X10_placeAt_p (σ : en_m) (k : Int) (h1 : 0 ≤ k ∧ k < (σ r_Tokens_amount) 0) (h2 : 0 ≤ (σ r_Tokens_amount) 0 ∧ (σ r_Tokens_amount) 0 ≤ 400) : en_fn z_X10_placeAt [.inr (.inr (r_Tokens, 0)), .inl k] σ (.inl ((σ r_Tokens_places) k)) := by
  show en_wp k_X10_placeAt 0 [some (.inr (.inr (r_Tokens, 0))), some (.inl k)] [] (srl σ []) (fun r σ' => r = some (.inl ((σ r_Tokens_places) k)) ∧ σ' = σ)
  refine wp_run 1 (pc' := 1) (ls' := [some (.inr (.inr (r_Tokens, 0))), some (.inl k)]) (st' := [.inl k]) (σ' := srl σ []) rfl ?_
  refine wp_if_lt rfl (by omega) (fun h_1 => ?_) (fun h_1 => ?_)
  · show en_wp k_X10_placeAt 21 [some (.inr (.inr (r_Tokens, 0))), some (.inl k)] [] (srl σ []) _
    refine wp_run 1 (pc' := 22) (ls' := [some (.inr (.inr (r_Tokens, 0))), some (.inl k)]) (st' := [.inl (-1)]) (σ' := srl σ []) rfl ?_
    exact wp_iret rfl ⟨(by first | rfl | (exfalso; omega)), rfl⟩
  · show en_wp k_X10_placeAt 4 [some (.inr (.inr (r_Tokens, 0))), some (.inl k)] [] (srl σ []) _
    refine wp_run 3 (pc' := 9) (ls' := [some (.inr (.inr (r_Tokens, 0))), some (.inl k)]) (st' := [.inl (σ r_Tokens_amount 0), .inl k]) (σ' := srl σ []) rfl ?_
    refine wp_ic_ge rfl (by omega) (by omega) (fun h_2 => ?_) (fun h_2 => ?_)
    · show en_wp k_X10_placeAt 21 [some (.inr (.inr (r_Tokens, 0))), some (.inl k)] [] (srl σ []) _
      refine wp_run 1 (pc' := 22) (ls' := [some (.inr (.inr (r_Tokens, 0))), some (.inl k)]) (st' := [.inl (-1)]) (σ' := srl σ []) rfl ?_
      exact wp_iret rfl ⟨(by first | rfl | (exfalso; omega)), rfl⟩
    · show en_wp k_X10_placeAt 12 [some (.inr (.inr (r_Tokens, 0))), some (.inl k)] [] (srl σ []) _
      refine wp_run 3 (pc' := 17) (ls' := [some (.inr (.inr (r_Tokens, 0))), some (.inl k)]) (st' := [.inl k, .inr (.inr (r_Tokens_places, 0))]) (σ' := srl σ []) rfl ?_
      refine wp_iald0 rfl rfl (by omega) ?_
      show en_wp k_X10_placeAt 18 [some (.inr (.inr (r_Tokens, 0))), some (.inl k)] [.inl (σ r_Tokens_places k)] (srl σ []) _
      refine wp_run 1 (pc' := 22) (ls' := [some (.inr (.inr (r_Tokens, 0))), some (.inl k)]) (st' := [.inl (σ r_Tokens_places k)]) (σ' := srl σ []) rfl ?_
      exact wp_iret rfl ⟨(by first | rfl | (exfalso; omega)), rfl⟩
theorem ct_X10_numberAt_p (σ : en_m) (k : Int) (h1 : 0 ≤ k ∧ k < (σ r_Tokens_amount) 0) (h2 : 0 ≤ (σ r_Tokens_amount) 0 ∧ (σ r_Tokens_amount) 0 ≤ 400) : en_fn z_X10_numberAt [.inr (.inr (r_Tokens, 0)), .inl k] σ (.inl ((σ r_Tokens_numbers) k)) := by
  show en_wp k_X10_numberAt 0 [some (.inr (.inr (r_Tokens, 0))), some (.inl k)] [] (srl σ []) (fun r σ' => r = some (.inl ((σ r_Tokens_numbers) k)) ∧ σ' = σ)
  refine wp_run 1 (pc' := 1) (ls' := [some (.inr (.inr (r_Tokens, 0))), some (.inl k)]) (st' := [.inl k]) (σ' := srl σ []) rfl ?_
  refine wp_if_lt rfl (by omega) (fun h_1 => ?_) (fun h_1 => ?_)
  · show en_wp k_X10_numberAt 21 [some (.inr (.inr (r_Tokens, 0))), some (.inl k)] [] (srl σ []) _
    refine wp_run 1 (pc' := 22) (ls' := [some (.inr (.inr (r_Tokens, 0))), some (.inl k)]) (st' := [.inl 0]) (σ' := srl σ []) rfl ?_
    exact wp_iret rfl ⟨(by first | rfl | (exfalso; omega)), rfl⟩
  · show en_wp k_X10_numberAt 4 [some (.inr (.inr (r_Tokens, 0))), some (.inl k)] [] (srl σ []) _
    refine wp_run 3 (pc' := 9) (ls' := [some (.inr (.inr (r_Tokens, 0))), some (.inl k)]) (st' := [.inl (σ r_Tokens_amount 0), .inl k]) (σ' := srl σ []) rfl ?_
    refine wp_ic_ge rfl (by omega) (by omega) (fun h_2 => ?_) (fun h_2 => ?_)
    · show en_wp k_X10_numberAt 21 [some (.inr (.inr (r_Tokens, 0))), some (.inl k)] [] (srl σ []) _
      refine wp_run 1 (pc' := 22) (ls' := [some (.inr (.inr (r_Tokens, 0))), some (.inl k)]) (st' := [.inl 0]) (σ' := srl σ []) rfl ?_
      exact wp_iret rfl ⟨(by first | rfl | (exfalso; omega)), rfl⟩
    · show en_wp k_X10_numberAt 12 [some (.inr (.inr (r_Tokens, 0))), some (.inl k)] [] (srl σ []) _
      refine wp_run 3 (pc' := 17) (ls' := [some (.inr (.inr (r_Tokens, 0))), some (.inl k)]) (st' := [.inl k, .inr (.inr (r_Tokens_numbers, 0))]) (σ' := srl σ []) rfl ?_
      refine wp_iald0 rfl rfl (by omega) ?_
      show en_wp k_X10_numberAt 18 [some (.inr (.inr (r_Tokens, 0))), some (.inl k)] [.inl (σ r_Tokens_numbers k)] (srl σ []) _
      refine wp_run 1 (pc' := 22) (ls' := [some (.inr (.inr (r_Tokens, 0))), some (.inl k)]) (st' := [.inl (σ r_Tokens_numbers k)]) (σ' := srl σ []) rfl ?_
      exact wp_iret rfl ⟨(by first | rfl | (exfalso; omega)), rfl⟩
theorem ct_X10_packAt_p (σ : en_m) (k : Int) (h1 : 0 ≤ k ∧ k < (σ r_Tokens_amount) 0) (h2 : 0 ≤ (σ r_Tokens_amount) 0 ∧ (σ r_Tokens_amount) 0 ≤ 400) : en_fn z_X10_packAt [.inr (.inr (r_Tokens, 0)), .inl k] σ (.inr (.inl ((σ r_Tokens_packed) k))) := by
  show en_wp k_X10_packAt 0 [some (.inr (.inr (r_Tokens, 0))), some (.inl k)] [] (srl σ []) (fun r σ' => r = some (.inr (.inl ((σ r_Tokens_packed) k))) ∧ σ' = σ)
  refine wp_run 1 (pc' := 1) (ls' := [some (.inr (.inr (r_Tokens, 0))), some (.inl k)]) (st' := [.inl k]) (σ' := srl σ []) rfl ?_
  refine wp_if_lt rfl (by omega) (fun h_1 => ?_) (fun h_1 => ?_)
  · show en_wp k_X10_packAt 21 [some (.inr (.inr (r_Tokens, 0))), some (.inl k)] [] (srl σ []) _
    refine wp_run 1 (pc' := 22) (ls' := [some (.inr (.inr (r_Tokens, 0))), some (.inl k)]) (st' := [.inr (.inl 0)]) (σ' := srl σ []) rfl ?_
    exact wp_lret rfl ⟨(by first | rfl | (exfalso; omega)), rfl⟩
  · show en_wp k_X10_packAt 4 [some (.inr (.inr (r_Tokens, 0))), some (.inl k)] [] (srl σ []) _
    refine wp_run 3 (pc' := 9) (ls' := [some (.inr (.inr (r_Tokens, 0))), some (.inl k)]) (st' := [.inl (σ r_Tokens_amount 0), .inl k]) (σ' := srl σ []) rfl ?_
    refine wp_ic_ge rfl (by omega) (by omega) (fun h_2 => ?_) (fun h_2 => ?_)
    · show en_wp k_X10_packAt 21 [some (.inr (.inr (r_Tokens, 0))), some (.inl k)] [] (srl σ []) _
      refine wp_run 1 (pc' := 22) (ls' := [some (.inr (.inr (r_Tokens, 0))), some (.inl k)]) (st' := [.inr (.inl 0)]) (σ' := srl σ []) rfl ?_
      exact wp_lret rfl ⟨(by first | rfl | (exfalso; omega)), rfl⟩
    · show en_wp k_X10_packAt 12 [some (.inr (.inr (r_Tokens, 0))), some (.inl k)] [] (srl σ []) _
      refine wp_run 3 (pc' := 17) (ls' := [some (.inr (.inr (r_Tokens, 0))), some (.inl k)]) (st' := [.inl k, .inr (.inr (r_Tokens_packed, 0))]) (σ' := srl σ []) rfl ?_
      refine wp_lald0 rfl rfl (by omega) ?_
      show en_wp k_X10_packAt 18 [some (.inr (.inr (r_Tokens, 0))), some (.inl k)] [.inr (.inl (σ r_Tokens_packed k))] (srl σ []) _
      refine wp_run 1 (pc' := 22) (ls' := [some (.inr (.inr (r_Tokens, 0))), some (.inl k)]) (st' := [.inr (.inl (σ r_Tokens_packed k))]) (σ' := srl σ []) rfl ?_
      exact wp_lret rfl ⟨(by first | rfl | (exfalso; omega)), rfl⟩
theorem ct_X5_startOf_Shape1_p (σ : en_m) (n : Int) (D : Int) (p : Int) (d : Int) (hI : cS1 σ n D p) (h1 : 0 ≤ d ∧ d ≤ 7) : en_fn z_X5_startOf [.inr (.inr (r_Shape1, 0)), .inl d] σ (.inl (sS n D d)) := by
  show en_wp k_X5_startOf 0 [some (.inr (.inr (r_Shape1, 0))), some (.inl d)] [] (srl σ []) (fun r σ' => r = some (.inl (sS n D d)) ∧ σ' = σ)
  have hI2 := hI
  obtain ⟨hO, hn, hD, hp, hm, hst, hln⟩ := hI2
  obtain ⟨⟨hO1, hO2⟩, ⟨hO3, hO4⟩, hO5, hO6, hO7, hO8⟩ := id hO
  refine wp_run 1 (pc' := 1) (ls' := [some (.inr (.inr (r_Shape1, 0))), some (.inl d)]) (st' := [.inl d]) (σ' := srl σ []) rfl ?_
  refine wp_if_lt rfl (by omega) (fun h_1 => ?_) (fun h_1 => ?_)
  · show en_wp k_X5_startOf 19 [some (.inr (.inr (r_Shape1, 0))), some (.inl d)] [] (srl σ []) _
    refine wp_run 1 (pc' := 20) (ls' := [some (.inr (.inr (r_Shape1, 0))), some (.inl d)]) (st' := [.inl 0]) (σ' := srl σ []) rfl ?_
    exact wp_iret rfl ⟨(by first | rw [hst d (by omega) (by omega)] | (exfalso; omega)), rfl⟩
  · show en_wp k_X5_startOf 4 [some (.inr (.inr (r_Shape1, 0))), some (.inl d)] [] (srl σ []) _
    refine wp_run 2 (pc' := 7) (ls' := [some (.inr (.inr (r_Shape1, 0))), some (.inl d)]) (st' := [.inl 7, .inl d]) (σ' := srl σ []) rfl ?_
    refine wp_ic_gt rfl (by omega) (by omega) (fun h_2 => ?_) (fun h_2 => ?_)
    · show en_wp k_X5_startOf 19 [some (.inr (.inr (r_Shape1, 0))), some (.inl d)] [] (srl σ []) _
      refine wp_run 1 (pc' := 20) (ls' := [some (.inr (.inr (r_Shape1, 0))), some (.inl d)]) (st' := [.inl 0]) (σ' := srl σ []) rfl ?_
      exact wp_iret rfl ⟨(by first | rw [hst d (by omega) (by omega)] | (exfalso; omega)), rfl⟩
    · show en_wp k_X5_startOf 10 [some (.inr (.inr (r_Shape1, 0))), some (.inl d)] [] (srl σ []) _
      refine wp_run 3 (pc' := 15) (ls' := [some (.inr (.inr (r_Shape1, 0))), some (.inl d)]) (st' := [.inl d, .inr (.inr (r_Shape1_start, 0))]) (σ' := srl σ []) rfl ?_
      refine wp_iald0 rfl rfl (by omega) ?_
      show en_wp k_X5_startOf 16 [some (.inr (.inr (r_Shape1, 0))), some (.inl d)] [.inl (σ r_Shape1_start d)] (srl σ []) _
      refine wp_run 1 (pc' := 20) (ls' := [some (.inr (.inr (r_Shape1, 0))), some (.inl d)]) (st' := [.inl (σ r_Shape1_start d)]) (σ' := srl σ []) rfl ?_
      exact wp_iret rfl ⟨(by first | rw [hst d (by omega) (by omega)] | (exfalso; omega)), rfl⟩
theorem ct_J7_fill_53178_Sums_sumRowsR (σ : en_m) (o : Int) (v : Int) : en_ct z_J7_fill_53178 [.inr (.inr (r_Sums_sumRowsR, o)), .inl v] σ (fun r σ' => r = none ∧ σ' = srl σ [(r_Sums_sumRowsR, (seg (σ r_Sums_sumRowsR) o 364 (fun _ => v)))]) := by
  show en_wp k_J7_fill_53178 0 [some (.inr (.inr (r_Sums_sumRowsR, o))), some (.inl v), none, none] [] (srl σ []) (fun r σ' => r = none ∧ σ' = srl σ [(r_Sums_sumRowsR, (seg (σ r_Sums_sumRowsR) o 364 (fun _ => v)))])
  have L_5 : ∀ (N : Nat) (k : Int) (X : Int → Int), (0 ≤ k ∧ k ≤ 364) → (X = seg (σ r_Sums_sumRowsR) o k (fun _ => v)) → (364 - k).toNat < N → en_wp k_J7_fill_53178 5 [some (.inr (.inr (r_Sums_sumRowsR, o))), some (.inl v), some (.inl k), some (.inl 364)] [] (srl σ [(r_Sums_sumRowsR, X)]) (fun r σ' => r = none ∧ σ' = srl σ [(r_Sums_sumRowsR, (seg (σ r_Sums_sumRowsR) o 364 (fun _ => v)))]) := by
    intro N
    induction N with
    | zero => intro k X; intros; omega
    | succ N ih_5 =>
      intro k X hk hX hN_5
      refine wp_run 2 (pc' := 7) (ls' := [some (.inr (.inr (r_Sums_sumRowsR, o))), some (.inl v), some (.inl k), some (.inl 364)]) (st' := [.inl 364, .inl k]) (σ' := srl σ [(r_Sums_sumRowsR, X)]) rfl ?_
      refine wp_ic_ge rfl (by omega) (by omega) (fun h_1 => ?_) (fun h_1 => ?_)
      · show en_wp k_J7_fill_53178 20 [some (.inr (.inr (r_Sums_sumRowsR, o))), some (.inl v), some (.inl k), some (.inl 364)] [] (srl σ [(r_Sums_sumRowsR, X)]) _
        exact wp_vret rfl ⟨rfl, (by rw [hX, show k = 364 by omega])⟩
      · show en_wp k_J7_fill_53178 10 [some (.inr (.inr (r_Sums_sumRowsR, o))), some (.inl v), some (.inl k), some (.inl 364)] [] (srl σ [(r_Sums_sumRowsR, X)]) _
        refine wp_run 3 (pc' := 13) (ls' := [some (.inr (.inr (r_Sums_sumRowsR, o))), some (.inl v), some (.inl k), some (.inl 364)]) (st' := [.inl v, .inl k, .inr (.inr (r_Sums_sumRowsR, o))]) (σ' := srl σ [(r_Sums_sumRowsR, X)]) rfl ?_
        refine wp_iast rfl rfl (by omega) (wp_wr (l2 := [(r_Sums_sumRowsR, (up X (o + k) v))]) rfl ?_)
        show en_wp k_J7_fill_53178 14 [some (.inr (.inr (r_Sums_sumRowsR, o))), some (.inl v), some (.inl k), some (.inl 364)] [] (srl σ [(r_Sums_sumRowsR, (up X (o + k) v))]) _
        refine wp_run 2 (pc' := 5) (ls' := [some (.inr (.inr (r_Sums_sumRowsR, o))), some (.inl v), some (.inl (k + 1)), some (.inl 364)]) (st' := []) (σ' := srl σ [(r_Sums_sumRowsR, (up X (o + k) v))]) rfl ?_
        exact ih_5 (k + 1) (up X (o + k) v) (by omega) (by rw [hX]; exact seg_up hk.1 rfl) (by omega)
  refine wp_run 5 (pc' := 5) (ls' := [some (.inr (.inr (r_Sums_sumRowsR, o))), some (.inl v), some (.inl 0), some (.inl 364)]) (st' := []) (σ' := srl σ []) rfl ?_
  refine wp_mem (srl_eq (l' := [(r_Sums_sumRowsR, (σ r_Sums_sumRowsR))]) trivial (And.intro rfl trivial)) ?_
  exact L_5 _ 0 (σ r_Sums_sumRowsR) (by omega) (seg_0 _ _ _).symm (Nat.lt_succ_self _)
theorem ct_J7_fill_53178_Sums_termRowsR (σ : en_m) (o : Int) (v : Int) : en_ct z_J7_fill_53178 [.inr (.inr (r_Sums_termRowsR, o)), .inl v] σ (fun r σ' => r = none ∧ σ' = srl σ [(r_Sums_termRowsR, (seg (σ r_Sums_termRowsR) o 364 (fun _ => v)))]) := by
  show en_wp k_J7_fill_53178 0 [some (.inr (.inr (r_Sums_termRowsR, o))), some (.inl v), none, none] [] (srl σ []) (fun r σ' => r = none ∧ σ' = srl σ [(r_Sums_termRowsR, (seg (σ r_Sums_termRowsR) o 364 (fun _ => v)))])
  have L_5 : ∀ (N : Nat) (k : Int) (X : Int → Int), (0 ≤ k ∧ k ≤ 364) → (X = seg (σ r_Sums_termRowsR) o k (fun _ => v)) → (364 - k).toNat < N → en_wp k_J7_fill_53178 5 [some (.inr (.inr (r_Sums_termRowsR, o))), some (.inl v), some (.inl k), some (.inl 364)] [] (srl σ [(r_Sums_termRowsR, X)]) (fun r σ' => r = none ∧ σ' = srl σ [(r_Sums_termRowsR, (seg (σ r_Sums_termRowsR) o 364 (fun _ => v)))]) := by
    intro N
    induction N with
    | zero => intro k X; intros; omega
    | succ N ih_5 =>
      intro k X hk hX hN_5
      refine wp_run 2 (pc' := 7) (ls' := [some (.inr (.inr (r_Sums_termRowsR, o))), some (.inl v), some (.inl k), some (.inl 364)]) (st' := [.inl 364, .inl k]) (σ' := srl σ [(r_Sums_termRowsR, X)]) rfl ?_
      refine wp_ic_ge rfl (by omega) (by omega) (fun h_1 => ?_) (fun h_1 => ?_)
      · show en_wp k_J7_fill_53178 20 [some (.inr (.inr (r_Sums_termRowsR, o))), some (.inl v), some (.inl k), some (.inl 364)] [] (srl σ [(r_Sums_termRowsR, X)]) _
        exact wp_vret rfl ⟨rfl, (by rw [hX, show k = 364 by omega])⟩
      · show en_wp k_J7_fill_53178 10 [some (.inr (.inr (r_Sums_termRowsR, o))), some (.inl v), some (.inl k), some (.inl 364)] [] (srl σ [(r_Sums_termRowsR, X)]) _
        refine wp_run 3 (pc' := 13) (ls' := [some (.inr (.inr (r_Sums_termRowsR, o))), some (.inl v), some (.inl k), some (.inl 364)]) (st' := [.inl v, .inl k, .inr (.inr (r_Sums_termRowsR, o))]) (σ' := srl σ [(r_Sums_termRowsR, X)]) rfl ?_
        refine wp_iast rfl rfl (by omega) (wp_wr (l2 := [(r_Sums_termRowsR, (up X (o + k) v))]) rfl ?_)
        show en_wp k_J7_fill_53178 14 [some (.inr (.inr (r_Sums_termRowsR, o))), some (.inl v), some (.inl k), some (.inl 364)] [] (srl σ [(r_Sums_termRowsR, (up X (o + k) v))]) _
        refine wp_run 2 (pc' := 5) (ls' := [some (.inr (.inr (r_Sums_termRowsR, o))), some (.inl v), some (.inl (k + 1)), some (.inl 364)]) (st' := []) (σ' := srl σ [(r_Sums_termRowsR, (up X (o + k) v))]) rfl ?_
        exact ih_5 (k + 1) (up X (o + k) v) (by omega) (by rw [hX]; exact seg_up hk.1 rfl) (by omega)
  refine wp_run 5 (pc' := 5) (ls' := [some (.inr (.inr (r_Sums_termRowsR, o))), some (.inl v), some (.inl 0), some (.inl 364)]) (st' := []) (σ' := srl σ []) rfl ?_
  refine wp_mem (srl_eq (l' := [(r_Sums_termRowsR, (σ r_Sums_termRowsR))]) trivial (And.intro rfl trivial)) ?_
  exact L_5 _ 0 (σ r_Sums_termRowsR) (by omega) (seg_0 _ _ _).symm (Nat.lt_succ_self _)
theorem ct_J7_fill_53178_Sums_spare (σ : en_m) (v : Int) : en_ct z_J7_fill_53178 [.inr (.inr (r_Sums_spare, 0)), .inl v] σ (fun r σ' => r = none ∧ σ' = srl σ [(r_Sums_spare, (seg (σ r_Sums_spare) 0 364 (fun _ => v)))]) := by
  show en_wp k_J7_fill_53178 0 [some (.inr (.inr (r_Sums_spare, 0))), some (.inl v), none, none] [] (srl σ []) (fun r σ' => r = none ∧ σ' = srl σ [(r_Sums_spare, (seg (σ r_Sums_spare) 0 364 (fun _ => v)))])
  have L_5 : ∀ (N : Nat) (k : Int) (X : Int → Int), (0 ≤ k ∧ k ≤ 364) → (X = seg (σ r_Sums_spare) 0 k (fun _ => v)) → (364 - k).toNat < N → en_wp k_J7_fill_53178 5 [some (.inr (.inr (r_Sums_spare, 0))), some (.inl v), some (.inl k), some (.inl 364)] [] (srl σ [(r_Sums_spare, X)]) (fun r σ' => r = none ∧ σ' = srl σ [(r_Sums_spare, (seg (σ r_Sums_spare) 0 364 (fun _ => v)))]) := by
    intro N
    induction N with
    | zero => intro k X; intros; omega
    | succ N ih_5 =>
      intro k X hk hX hN_5
      refine wp_run 2 (pc' := 7) (ls' := [some (.inr (.inr (r_Sums_spare, 0))), some (.inl v), some (.inl k), some (.inl 364)]) (st' := [.inl 364, .inl k]) (σ' := srl σ [(r_Sums_spare, X)]) rfl ?_
      refine wp_ic_ge rfl (by omega) (by omega) (fun h_1 => ?_) (fun h_1 => ?_)
      · show en_wp k_J7_fill_53178 20 [some (.inr (.inr (r_Sums_spare, 0))), some (.inl v), some (.inl k), some (.inl 364)] [] (srl σ [(r_Sums_spare, X)]) _
        exact wp_vret rfl ⟨rfl, (by rw [hX, show k = 364 by omega])⟩
      · show en_wp k_J7_fill_53178 10 [some (.inr (.inr (r_Sums_spare, 0))), some (.inl v), some (.inl k), some (.inl 364)] [] (srl σ [(r_Sums_spare, X)]) _
        refine wp_run 3 (pc' := 13) (ls' := [some (.inr (.inr (r_Sums_spare, 0))), some (.inl v), some (.inl k), some (.inl 364)]) (st' := [.inl v, .inl k, .inr (.inr (r_Sums_spare, 0))]) (σ' := srl σ [(r_Sums_spare, X)]) rfl ?_
        refine wp_iast0 rfl rfl (by omega) (wp_wr (l2 := [(r_Sums_spare, (up X k v))]) rfl ?_)
        show en_wp k_J7_fill_53178 14 [some (.inr (.inr (r_Sums_spare, 0))), some (.inl v), some (.inl k), some (.inl 364)] [] (srl σ [(r_Sums_spare, (up X k v))]) _
        refine wp_run 2 (pc' := 5) (ls' := [some (.inr (.inr (r_Sums_spare, 0))), some (.inl v), some (.inl (k + 1)), some (.inl 364)]) (st' := []) (σ' := srl σ [(r_Sums_spare, (up X k v))]) rfl ?_
        exact ih_5 (k + 1) (up X k v) (by omega) (by rw [hX]; exact seg_up0 hk.1 rfl) (by omega)
  refine wp_run 5 (pc' := 5) (ls' := [some (.inr (.inr (r_Sums_spare, 0))), some (.inl v), some (.inl 0), some (.inl 364)]) (st' := []) (σ' := srl σ []) rfl ?_
  refine wp_mem (srl_eq (l' := [(r_Sums_spare, (σ r_Sums_spare))]) trivial (And.intro rfl trivial)) ?_
  exact L_5 _ 0 (σ r_Sums_spare) (by omega) (seg_0 _ _ _).symm (Nat.lt_succ_self _)
theorem ct_X7_endsSum (σ : en_m) (k : Int) (h1 : i32 k) : en_fn z_X7_endsSum [.inl k] σ (.inl (bI (k = 8 ∨ k = 7))) := by
  show en_wp k_X7_endsSum 0 [some (.inl k)] [] (srl σ []) (fun r σ' => r = some (.inl (bI (k = 8 ∨ k = 7))) ∧ σ' = σ)
  refine wp_run 2 (pc' := 3) (ls' := [some (.inl k)]) (st' := [.inl 8, .inl k]) (σ' := srl σ []) rfl ?_
  refine wp_ic_eq rfl (by omega) (by omega) (fun h_1 => ?_) (fun h_1 => ?_)
  · show en_wp k_X7_endsSum 12 [some (.inl k)] [] (srl σ []) _
    refine wp_run 2 (pc' := 17) (ls' := [some (.inl k)]) (st' := [.inl 1]) (σ' := srl σ []) rfl ?_
    exact wp_zret rfl (.inr rfl) ⟨(by first | rfl | (rw [bI_t (by omega)]) | (rw [bI_f (by omega)])), rfl⟩
  · show en_wp k_X7_endsSum 6 [some (.inl k)] [] (srl σ []) _
    refine wp_run 2 (pc' := 9) (ls' := [some (.inl k)]) (st' := [.inl 7, .inl k]) (σ' := srl σ []) rfl ?_
    refine wp_ic_ne rfl (by omega) (by omega) (fun h_2 => ?_) (fun h_2 => ?_)
    · show en_wp k_X7_endsSum 16 [some (.inl k)] [] (srl σ []) _
      refine wp_run 1 (pc' := 17) (ls' := [some (.inl k)]) (st' := [.inl 0]) (σ' := srl σ []) rfl ?_
      exact wp_zret rfl (.inl rfl) ⟨(by first | rfl | (rw [bI_t (by omega)]) | (rw [bI_f (by omega)])), rfl⟩
    · show en_wp k_X7_endsSum 12 [some (.inl k)] [] (srl σ []) _
      refine wp_run 2 (pc' := 17) (ls' := [some (.inl k)]) (st' := [.inl 1]) (σ' := srl σ []) rfl ?_
      exact wp_zret rfl (.inr rfl) ⟨(by first | rfl | (rw [bI_t (by omega)]) | (rw [bI_f (by omega)])), rfl⟩
theorem ct_X5_addProduct_Shape0_Sums_spare_Sums_termRowsR_Sums_sumRowsR (σ : en_m) (n : Int) (D : Int) (p : Int) (a : Int) (b : Int) (f : Int) (hI : cS0 σ n D p) (hf : f = 1 ∨ f = -1) (ga : R97 ((σ r_Sums_termRowsR))) (gb : R97 ((σ r_Sums_sumRowsR))) (gtp : ∀ x, 0 ≤ x → x < sS n D (D + 1) → 0 ≤ (σ r_Sums_spare) x ∧ (σ r_Sums_spare) x < p) : en_ct z_X5_addProduct [.inr (.inr (r_Shape0, 0)), .inr (.inr (r_Sums_spare, 0)), .inr (.inr (r_Sums_termRowsR, a)), .inr (.inr (r_Sums_sumRowsR, b)), .inl f] σ (fun r σ' => ∃ (f_Sums_spare : Int → Int), r = none ∧ σ' = srl σ [(r_Sums_spare, f_Sums_spare)] ∧ (∀ x, 0 ≤ x → x < sS n D (D + 1) → (0 ≤ f_Sums_spare x ∧ f_Sums_spare x < p) ∧ mE p (f_Sums_spare x) ((σ r_Sums_spare) x + f * prd n D (fun x => (σ r_Sums_termRowsR) (a + x)) (fun x => (σ r_Sums_sumRowsR) (b + x)) x)) ∧ (∀ x, ¬ (0 ≤ x ∧ x < sS n D (D + 1)) → f_Sums_spare x = (σ r_Sums_spare) x)) := by
  show en_wp k_X5_addProduct 0 [some (.inr (.inr (r_Shape0, 0))), some (.inr (.inr (r_Sums_spare, 0))), some (.inr (.inr (r_Sums_termRowsR, a))), some (.inr (.inr (r_Sums_sumRowsR, b))), some (.inl f), none, none, none, none, none, none] [] (srl σ []) (fun r σ' => ∃ (f_Sums_spare : Int → Int), r = none ∧ σ' = srl σ [(r_Sums_spare, f_Sums_spare)] ∧ (∀ x, 0 ≤ x → x < sS n D (D + 1) → (0 ≤ f_Sums_spare x ∧ f_Sums_spare x < p) ∧ mE p (f_Sums_spare x) ((σ r_Sums_spare) x + f * prd n D (fun x => (σ r_Sums_termRowsR) (a + x)) (fun x => (σ r_Sums_sumRowsR) (b + x)) x)) ∧ (∀ x, ¬ (0 ≤ x ∧ x < sS n D (D + 1)) → f_Sums_spare x = (σ r_Sums_spare) x))
  have hI2 := hI
  obtain ⟨hO, hn, hD, hp, hm, hst, hln⟩ := hI2
  obtain ⟨⟨hO1, hO2⟩, ⟨hO3, hO4⟩, hO5, hO6, hO7, hO8⟩ := id hO
  have hAb := sS_b (k := D + 1) hO
  have hmn : min (sS n D (D + 1)) (min 364 (min 364 364)) = sS n D (D + 1) := Int.min_eq_left (by omega)
  have L_24 : ∀ (N : Nat) (W : Int) (u : Int) (X : Int → Int), (W = sS n D (D + 1)) → (0 ≤ u ∧ u ≤ sS n D (D + 1)) → (apI n D p f (σ r_Sums_spare) (fun x => σ r_Sums_termRowsR (a + x)) (fun x => σ r_Sums_sumRowsR (b + x)) X u 0) → (sS n D (D + 1) - u).toNat < N → en_wp k_X5_addProduct 24 [some (.inr (.inr (r_Shape0, 0))), some (.inr (.inr (r_Sums_spare, 0))), some (.inr (.inr (r_Sums_termRowsR, a))), some (.inr (.inr (r_Sums_sumRowsR, b))), some (.inl f), some (.inl W), some (.inl u), none, none, none, none] [] (srl σ [(r_Sums_spare, X)]) (fun r σ' => ∃ (f_Sums_spare : Int → Int), r = none ∧ σ' = srl σ [(r_Sums_spare, f_Sums_spare)] ∧ (∀ x, 0 ≤ x → x < sS n D (D + 1) → (0 ≤ f_Sums_spare x ∧ f_Sums_spare x < p) ∧ mE p (f_Sums_spare x) ((σ r_Sums_spare) x + f * prd n D (fun x => (σ r_Sums_termRowsR) (a + x)) (fun x => (σ r_Sums_sumRowsR) (b + x)) x)) ∧ (∀ x, ¬ (0 ≤ x ∧ x < sS n D (D + 1)) → f_Sums_spare x = (σ r_Sums_spare) x)) := by
    intro N
    induction N with
    | zero => intro W u X; intros; omega
    | succ N ih_24 =>
      intro W u X hW hu hX hN_24
      have L_70 : ∀ (N : Nat) (c : Int) (e : Int) (v : Int) (X : Int → Int), (0 ≤ u ∧ u < sS n D (D + 1)) → (c = (f * (fun x => σ r_Sums_termRowsR (a + x)) u) % p) → (e = sS n D (D - sL n D u + 1)) → (0 ≤ v ∧ v ≤ e) → (apI n D p f (σ r_Sums_spare) (fun x => σ r_Sums_termRowsR (a + x)) (fun x => σ r_Sums_sumRowsR (b + x)) X u v) → (e - v).toNat < N → en_wp k_X5_addProduct 70 [some (.inr (.inr (r_Shape0, 0))), some (.inr (.inr (r_Sums_spare, 0))), some (.inr (.inr (r_Sums_termRowsR, a))), some (.inr (.inr (r_Sums_sumRowsR, b))), some (.inl f), some (.inl W), some (.inl u), some (.inl c), some (.inl e), some (.inl v), none] [] (srl σ [(r_Sums_spare, X)]) (fun r σ' => ∃ (f_Sums_spare : Int → Int), r = none ∧ σ' = srl σ [(r_Sums_spare, f_Sums_spare)] ∧ (∀ x, 0 ≤ x → x < sS n D (D + 1) → (0 ≤ f_Sums_spare x ∧ f_Sums_spare x < p) ∧ mE p (f_Sums_spare x) ((σ r_Sums_spare) x + f * prd n D (fun x => (σ r_Sums_termRowsR) (a + x)) (fun x => (σ r_Sums_sumRowsR) (b + x)) x)) ∧ (∀ x, ¬ (0 ≤ x ∧ x < sS n D (D + 1)) → f_Sums_spare x = (σ r_Sums_spare) x)) := by
        intro N
        induction N with
        | zero => intro c e v X; intros; omega
        | succ N ih_70 =>
          intro c e v X huu hc he hv hX hN_70
          have hcb := @sR_lt p (f * (fun x => σ r_Sums_termRowsR (a + x)) u) hO.2.2.2
          rw [← hc] at hcb
          have huw := sL_w hO huu.1 huu.2
          have heb : e ≤ sS n D (D + 1) := by rw [he]; exact sS_mono hO.1.1 (by omega)
          refine wp_run 1 (pc' := 72) (ls' := [some (.inr (.inr (r_Shape0, 0))), some (.inr (.inr (r_Sums_spare, 0))), some (.inr (.inr (r_Sums_termRowsR, a))), some (.inr (.inr (r_Sums_sumRowsR, b))), some (.inl f), some (.inl W), some (.inl u), some (.inl c), some (.inl e), some (.inl v), none]) (st' := [.inl c]) (σ' := srl σ [(r_Sums_spare, X)]) rfl ?_
          refine wp_if_eq rfl (by omega) (fun h_1 => ?_) (fun h_1 => ?_)
          · show en_wp k_X5_addProduct 141 [some (.inr (.inr (r_Shape0, 0))), some (.inr (.inr (r_Sums_spare, 0))), some (.inr (.inr (r_Sums_termRowsR, a))), some (.inr (.inr (r_Sums_sumRowsR, b))), some (.inl f), some (.inl W), some (.inl u), some (.inl c), some (.inl e), some (.inl v), none] [] (srl σ [(r_Sums_spare, X)]) _
            refine wp_run 2 (pc' := 24) (ls' := [some (.inr (.inr (r_Shape0, 0))), some (.inr (.inr (r_Sums_spare, 0))), some (.inr (.inr (r_Sums_termRowsR, a))), some (.inr (.inr (r_Sums_sumRowsR, b))), some (.inl f), some (.inl W), some (.inl (u + 1)), some (.inl c), some (.inl e), some (.inl v), none]) (st' := []) (σ' := srl σ [(r_Sums_spare, X)]) rfl ?_
            refine wp_sub (l := [some (.inr (.inr (r_Shape0, 0))), some (.inr (.inr (r_Sums_spare, 0))), some (.inr (.inr (r_Sums_termRowsR, a))), some (.inr (.inr (r_Sums_sumRowsR, b))), some (.inl f), some (.inl W), some (.inl (u + 1)), none, none, none, none]) (And.intro rfl (And.intro rfl (And.intro rfl (And.intro rfl (And.intro rfl (And.intro rfl (And.intro rfl trivial))))))) ?_
            exact ih_24 W (u + 1) X hW (by omega) (ap_row hX huu.1 (by omega) (fun w _ _ x => ap_z2 (by rw [← hc]; assumption))) (by omega)
          · show en_wp k_X5_addProduct 75 [some (.inr (.inr (r_Shape0, 0))), some (.inr (.inr (r_Sums_spare, 0))), some (.inr (.inr (r_Sums_termRowsR, a))), some (.inr (.inr (r_Sums_sumRowsR, b))), some (.inl f), some (.inl W), some (.inl u), some (.inl c), some (.inl e), some (.inl v), none] [] (srl σ [(r_Sums_spare, X)]) _
            refine wp_run 2 (pc' := 79) (ls' := [some (.inr (.inr (r_Shape0, 0))), some (.inr (.inr (r_Sums_spare, 0))), some (.inr (.inr (r_Sums_termRowsR, a))), some (.inr (.inr (r_Sums_sumRowsR, b))), some (.inl f), some (.inl W), some (.inl u), some (.inl c), some (.inl e), some (.inl v), none]) (st' := [.inl e, .inl v]) (σ' := srl σ [(r_Sums_spare, X)]) rfl ?_
            refine wp_ic_ge rfl (by omega) (by omega) (fun h_2 => ?_) (fun h_2 => ?_)
            · show en_wp k_X5_addProduct 141 [some (.inr (.inr (r_Shape0, 0))), some (.inr (.inr (r_Sums_spare, 0))), some (.inr (.inr (r_Sums_termRowsR, a))), some (.inr (.inr (r_Sums_sumRowsR, b))), some (.inl f), some (.inl W), some (.inl u), some (.inl c), some (.inl e), some (.inl v), none] [] (srl σ [(r_Sums_spare, X)]) _
              refine wp_run 2 (pc' := 24) (ls' := [some (.inr (.inr (r_Shape0, 0))), some (.inr (.inr (r_Sums_spare, 0))), some (.inr (.inr (r_Sums_termRowsR, a))), some (.inr (.inr (r_Sums_sumRowsR, b))), some (.inl f), some (.inl W), some (.inl (u + 1)), some (.inl c), some (.inl e), some (.inl v), none]) (st' := []) (σ' := srl σ [(r_Sums_spare, X)]) rfl ?_
              refine wp_sub (l := [some (.inr (.inr (r_Shape0, 0))), some (.inr (.inr (r_Sums_spare, 0))), some (.inr (.inr (r_Sums_termRowsR, a))), some (.inr (.inr (r_Sums_sumRowsR, b))), some (.inl f), some (.inl W), some (.inl (u + 1)), none, none, none, none]) (And.intro rfl (And.intro rfl (And.intro rfl (And.intro rfl (And.intro rfl (And.intro rfl (And.intro rfl trivial))))))) ?_
              exact ih_24 W (u + 1) X hW (by omega) (ap_row hX huu.1 (by omega) (fun w h6 h7 x => ap_z3 (by have h5 := (sL_lt hO (show 0 ≤ w by omega) h7 (show 0 ≤ D - sL n D u by omega)).mpr; rcases Int.lt_or_le D (sL n D u + sL n D w) with h4 | h4; exact h4; have h3 := h5 (by omega); omega))) (by omega)
            · show en_wp k_X5_addProduct 82 [some (.inr (.inr (r_Shape0, 0))), some (.inr (.inr (r_Sums_spare, 0))), some (.inr (.inr (r_Sums_termRowsR, a))), some (.inr (.inr (r_Sums_sumRowsR, b))), some (.inl f), some (.inl W), some (.inl u), some (.inl c), some (.inl e), some (.inl v), none] [] (srl σ [(r_Sums_spare, X)]) _
              refine wp_run 2 (pc' := 85) (ls' := [some (.inr (.inr (r_Shape0, 0))), some (.inr (.inr (r_Sums_spare, 0))), some (.inr (.inr (r_Sums_termRowsR, a))), some (.inr (.inr (r_Sums_sumRowsR, b))), some (.inl f), some (.inl W), some (.inl u), some (.inl c), some (.inl e), some (.inl v), none]) (st' := [.inl v, .inr (.inr (r_Sums_sumRowsR, b))]) (σ' := srl σ [(r_Sums_spare, X)]) rfl ?_
              have hv364 : v < 364 := by omega
              refine wp_iald rfl rfl (by omega) ?_
              show en_wp k_X5_addProduct 86 [some (.inr (.inr (r_Shape0, 0))), some (.inr (.inr (r_Sums_spare, 0))), some (.inr (.inr (r_Sums_termRowsR, a))), some (.inr (.inr (r_Sums_sumRowsR, b))), some (.inl f), some (.inl W), some (.inl u), some (.inl c), some (.inl e), some (.inl v), none] [.inl (σ r_Sums_sumRowsR (b + v))] (srl σ [(r_Sums_spare, X)]) _
              have hxb := gb (b + v)
              refine wp_if_eq rfl (by omega) (fun h_3 => ?_) (fun h_3 => ?_)
              · show en_wp k_X5_addProduct 100 [some (.inr (.inr (r_Shape0, 0))), some (.inr (.inr (r_Sums_spare, 0))), some (.inr (.inr (r_Sums_termRowsR, a))), some (.inr (.inr (r_Sums_sumRowsR, b))), some (.inl f), some (.inl W), some (.inl u), some (.inl c), some (.inl e), some (.inl v), none] [] (srl σ [(r_Sums_spare, X)]) _
                refine wp_run 6 (pc' := 70) (ls' := [some (.inr (.inr (r_Shape0, 0))), some (.inr (.inr (r_Sums_spare, 0))), some (.inr (.inr (r_Sums_termRowsR, a))), some (.inr (.inr (r_Sums_sumRowsR, b))), some (.inl f), some (.inl W), some (.inl u), some (.inl c), some (.inl e), some (.inl (v + 1)), some (.inl (-1))]) (st' := []) (σ' := srl σ [(r_Sums_spare, X)]) rfl ?_
                refine wp_sub (l := [some (.inr (.inr (r_Shape0, 0))), some (.inr (.inr (r_Sums_spare, 0))), some (.inr (.inr (r_Sums_termRowsR, a))), some (.inr (.inr (r_Sums_sumRowsR, b))), some (.inl f), some (.inl W), some (.inl u), some (.inl c), some (.inl e), some (.inl (v + 1)), none]) (And.intro rfl (And.intro rfl (And.intro rfl (And.intro rfl (And.intro rfl (And.intro rfl (And.intro rfl (And.intro rfl (And.intro rfl (And.intro rfl trivial)))))))))) ?_
                exact ih_70 c e (v + 1) X (by omega) hc he (by omega) (ap_skip hX hv.1 (fun x => ap_z1 (by assumption))) (by omega)
              · show en_wp k_X5_addProduct 89 [some (.inr (.inr (r_Shape0, 0))), some (.inr (.inr (r_Sums_spare, 0))), some (.inr (.inr (r_Sums_termRowsR, a))), some (.inr (.inr (r_Sums_sumRowsR, b))), some (.inl f), some (.inl W), some (.inl u), some (.inl c), some (.inl e), some (.inl v), none] [] (srl σ [(r_Sums_spare, X)]) _
                refine wp_run 3 (pc' := 94) (ls' := [some (.inr (.inr (r_Shape0, 0))), some (.inr (.inr (r_Sums_spare, 0))), some (.inr (.inr (r_Sums_termRowsR, a))), some (.inr (.inr (r_Sums_sumRowsR, b))), some (.inl f), some (.inl W), some (.inl u), some (.inl c), some (.inl e), some (.inl v), none]) (st' := [.inl v, .inl u, .inr (.inr (r_Shape0, 0))]) (σ' := srl σ [(r_Sums_spare, X)]) rfl ?_
                have hvA : 0 ≤ v ∧ v < sS n D (D + 1) := by omega
                have hvL : sL n D v ≤ D - sL n D u := (sL_lt hO hvA.1 hvA.2 (by omega)).mp (by omega)
                refine wp_fnv (v := .inl (sS n D (sL n D u + sL n D v) + (u - sS n D (sL n D u)) * sW n D (sL n D v) + v - sS n D (sL n D v))) rfl rfl rfl rfl (ct_X5_indexOfBoth_Shape0 (srl σ [(r_Sums_spare, X)]) n D p u v hI (by omega) (by omega) (by omega)) ?_
                show en_wp k_X5_addProduct 97 [some (.inr (.inr (r_Shape0, 0))), some (.inr (.inr (r_Sums_spare, 0))), some (.inr (.inr (r_Sums_termRowsR, a))), some (.inr (.inr (r_Sums_sumRowsR, b))), some (.inl f), some (.inl W), some (.inl u), some (.inl c), some (.inl e), some (.inl v), none] [.inl (sS n D (sL n D u + sL n D v) + (u - sS n D (sL n D u)) * sW n D (sL n D v) + v - sS n D (sL n D v))] (srl σ [(r_Sums_spare, X)]) _
                refine wp_run 3 (pc' := 105) (ls' := [some (.inr (.inr (r_Shape0, 0))), some (.inr (.inr (r_Sums_spare, 0))), some (.inr (.inr (r_Sums_termRowsR, a))), some (.inr (.inr (r_Sums_sumRowsR, b))), some (.inl f), some (.inl W), some (.inl u), some (.inl c), some (.inl e), some (.inl v), some (.inl (sS n D (sL n D u + sL n D v) + (u - sS n D (sL n D u)) * sW n D (sL n D v) + v - sS n D (sL n D v)))]) (st' := [.inl (sS n D (sL n D u + sL n D v) + (u - sS n D (sL n D u)) * sW n D (sL n D v) + v - sS n D (sL n D v))]) (σ' := srl σ [(r_Sums_spare, X)]) rfl ?_
                have hin := bAt_in hO huu hvA (by omega)
                unfold bAt at hin
                refine wp_if_lt rfl (by omega) (fun h_4 => ?_) (fun h_4 => ?_)
                · exfalso; omega
                · show en_wp k_X5_addProduct 108 [some (.inr (.inr (r_Shape0, 0))), some (.inr (.inr (r_Sums_spare, 0))), some (.inr (.inr (r_Sums_termRowsR, a))), some (.inr (.inr (r_Sums_sumRowsR, b))), some (.inl f), some (.inl W), some (.inl u), some (.inl c), some (.inl e), some (.inl v), some (.inl (sS n D (sL n D u + sL n D v) + (u - sS n D (sL n D u)) * sW n D (sL n D v) + v - sS n D (sL n D v)))] [] (srl σ [(r_Sums_spare, X)]) _
                  refine wp_run 2 (pc' := 112) (ls' := [some (.inr (.inr (r_Shape0, 0))), some (.inr (.inr (r_Sums_spare, 0))), some (.inr (.inr (r_Sums_termRowsR, a))), some (.inr (.inr (r_Sums_sumRowsR, b))), some (.inl f), some (.inl W), some (.inl u), some (.inl c), some (.inl e), some (.inl v), some (.inl (sS n D (sL n D u + sL n D v) + (u - sS n D (sL n D u)) * sW n D (sL n D v) + v - sS n D (sL n D v)))]) (st' := [.inl W, .inl (sS n D (sL n D u + sL n D v) + (u - sS n D (sL n D u)) * sW n D (sL n D v) + v - sS n D (sL n D v))]) (σ' := srl σ [(r_Sums_spare, X)]) rfl ?_
                  refine wp_ic_ge rfl (by omega) (by omega) (fun h_5 => ?_) (fun h_5 => ?_)
                  · exfalso; omega
                  · show en_wp k_X5_addProduct 115 [some (.inr (.inr (r_Shape0, 0))), some (.inr (.inr (r_Sums_spare, 0))), some (.inr (.inr (r_Sums_termRowsR, a))), some (.inr (.inr (r_Sums_sumRowsR, b))), some (.inl f), some (.inl W), some (.inl u), some (.inl c), some (.inl e), some (.inl v), some (.inl (sS n D (sL n D u + sL n D v) + (u - sS n D (sL n D u)) * sW n D (sL n D v) + v - sS n D (sL n D v)))] [] (srl σ [(r_Sums_spare, X)]) _
                    refine wp_run 5 (pc' := 122) (ls' := [some (.inr (.inr (r_Shape0, 0))), some (.inr (.inr (r_Sums_spare, 0))), some (.inr (.inr (r_Sums_termRowsR, a))), some (.inr (.inr (r_Sums_sumRowsR, b))), some (.inl f), some (.inl W), some (.inl u), some (.inl c), some (.inl e), some (.inl v), some (.inl (sS n D (sL n D u + sL n D v) + (u - sS n D (sL n D u)) * sW n D (sL n D v) + v - sS n D (sL n D v)))]) (st' := [.inl (sS n D (sL n D u + sL n D v) + (u - sS n D (sL n D u)) * sW n D (sL n D v) + v - sS n D (sL n D v)), .inr (.inr (r_Sums_spare, 0)), .inr (.inr (r_Shape0, 0)), .inl (sS n D (sL n D u + sL n D v) + (u - sS n D (sL n D u)) * sW n D (sL n D v) + v - sS n D (sL n D v)), .inr (.inr (r_Sums_spare, 0))]) (σ' := srl σ [(r_Sums_spare, X)]) rfl ?_
                    have hxa := (hX.1 _ hin.1 hin.2.1).1
                    have hxb := gb (b + v)
                    have hm1 := m97 (a := c) (b := σ r_Sums_sumRowsR (b + v)) (by omega) hxb
                    refine wp_iald0 rfl rfl (by omega) ?_
                    show en_wp k_X5_addProduct 123 [some (.inr (.inr (r_Shape0, 0))), some (.inr (.inr (r_Sums_spare, 0))), some (.inr (.inr (r_Sums_termRowsR, a))), some (.inr (.inr (r_Sums_sumRowsR, b))), some (.inl f), some (.inl W), some (.inl u), some (.inl c), some (.inl e), some (.inl v), some (.inl (sS n D (sL n D u + sL n D v) + (u - sS n D (sL n D u)) * sW n D (sL n D v) + v - sS n D (sL n D v)))] [.inl (X (sS n D (sL n D u + sL n D v) + (u - sS n D (sL n D u)) * sW n D (sL n D v) + v - sS n D (sL n D v))), .inr (.inr (r_Shape0, 0)), .inl (sS n D (sL n D u + sL n D v) + (u - sS n D (sL n D u)) * sW n D (sL n D v) + v - sS n D (sL n D v)), .inr (.inr (r_Sums_spare, 0))] (srl σ [(r_Sums_spare, X)]) _
                    refine wp_run 3 (pc' := 128) (ls' := [some (.inr (.inr (r_Shape0, 0))), some (.inr (.inr (r_Sums_spare, 0))), some (.inr (.inr (r_Sums_termRowsR, a))), some (.inr (.inr (r_Sums_sumRowsR, b))), some (.inl f), some (.inl W), some (.inl u), some (.inl c), some (.inl e), some (.inl v), some (.inl (sS n D (sL n D u + sL n D v) + (u - sS n D (sL n D u)) * sW n D (sL n D v) + v - sS n D (sL n D v)))]) (st' := [.inl v, .inr (.inr (r_Sums_sumRowsR, b)), .inl c, .inl (X (sS n D (sL n D u + sL n D v) + (u - sS n D (sL n D u)) * sW n D (sL n D v) + v - sS n D (sL n D v))), .inr (.inr (r_Shape0, 0)), .inl (sS n D (sL n D u + sL n D v) + (u - sS n D (sL n D u)) * sW n D (sL n D v) + v - sS n D (sL n D v)), .inr (.inr (r_Sums_spare, 0))]) (σ' := srl σ [(r_Sums_spare, X)]) rfl ?_
                    refine wp_iald rfl rfl (by omega) ?_
                    show en_wp k_X5_addProduct 129 [some (.inr (.inr (r_Shape0, 0))), some (.inr (.inr (r_Sums_spare, 0))), some (.inr (.inr (r_Sums_termRowsR, a))), some (.inr (.inr (r_Sums_sumRowsR, b))), some (.inl f), some (.inl W), some (.inl u), some (.inl c), some (.inl e), some (.inl v), some (.inl (sS n D (sL n D u + sL n D v) + (u - sS n D (sL n D u)) * sW n D (sL n D v) + v - sS n D (sL n D v)))] [.inl (σ r_Sums_sumRowsR (b + v)), .inl c, .inl (X (sS n D (sL n D u + sL n D v) + (u - sS n D (sL n D u)) * sW n D (sL n D v) + v - sS n D (sL n D v))), .inr (.inr (r_Shape0, 0)), .inl (sS n D (sL n D u + sL n D v) + (u - sS n D (sL n D u)) * sW n D (sL n D v) + v - sS n D (sL n D v)), .inr (.inr (r_Sums_spare, 0))] (srl σ [(r_Sums_spare, X)]) _
                    refine wp_run 2 (pc' := 131) (ls' := [some (.inr (.inr (r_Shape0, 0))), some (.inr (.inr (r_Sums_spare, 0))), some (.inr (.inr (r_Sums_termRowsR, a))), some (.inr (.inr (r_Sums_sumRowsR, b))), some (.inl f), some (.inl W), some (.inl u), some (.inl c), some (.inl e), some (.inl v), some (.inl (sS n D (sL n D u + sL n D v) + (u - sS n D (sL n D u)) * sW n D (sL n D v) + v - sS n D (sL n D v)))]) (st' := [.inl ((X (sS n D (sL n D u + sL n D v) + (u - sS n D (sL n D u)) * sW n D (sL n D v) + v - sS n D (sL n D v))) + (c * (σ r_Sums_sumRowsR (b + v)))), .inr (.inr (r_Shape0, 0)), .inl (sS n D (sL n D u + sL n D v) + (u - sS n D (sL n D u)) * sW n D (sL n D v) + v - sS n D (sL n D v)), .inr (.inr (r_Sums_spare, 0))]) (σ' := srl σ [(r_Sums_spare, X)]) rfl ?_
                    refine wp_fnv (v := .inl (((X (sS n D (sL n D u + sL n D v) + (u - sS n D (sL n D u)) * sW n D (sL n D v) + v - sS n D (sL n D v))) + (c * (σ r_Sums_sumRowsR (b + v)))) % p)) rfl rfl rfl rfl (ct_X5_rest_Shape0 (srl σ [(r_Sums_spare, X)]) n D p ((X (sS n D (sL n D u + sL n D v) + (u - sS n D (sL n D u)) * sW n D (sL n D v) + v - sS n D (sL n D v))) + (c * (σ r_Sums_sumRowsR (b + v)))) hI (by omega)) ?_
                    show en_wp k_X5_addProduct 134 [some (.inr (.inr (r_Shape0, 0))), some (.inr (.inr (r_Sums_spare, 0))), some (.inr (.inr (r_Sums_termRowsR, a))), some (.inr (.inr (r_Sums_sumRowsR, b))), some (.inl f), some (.inl W), some (.inl u), some (.inl c), some (.inl e), some (.inl v), some (.inl (sS n D (sL n D u + sL n D v) + (u - sS n D (sL n D u)) * sW n D (sL n D v) + v - sS n D (sL n D v)))] [.inl (((X (sS n D (sL n D u + sL n D v) + (u - sS n D (sL n D u)) * sW n D (sL n D v) + v - sS n D (sL n D v))) + (c * (σ r_Sums_sumRowsR (b + v)))) % p), .inl (sS n D (sL n D u + sL n D v) + (u - sS n D (sL n D u)) * sW n D (sL n D v) + v - sS n D (sL n D v)), .inr (.inr (r_Sums_spare, 0))] (srl σ [(r_Sums_spare, X)]) _
                    have q_6 : 0 ≤ ((X (sS n D (sL n D u + sL n D v) + (u - sS n D (sL n D u)) * sW n D (sL n D v) + v - sS n D (sL n D v))) + (c * (σ r_Sums_sumRowsR (b + v)))) % p ∧ ((X (sS n D (sL n D u + sL n D v) + (u - sS n D (sL n D u)) * sW n D (sL n D v) + v - sS n D (sL n D v))) + (c * (σ r_Sums_sumRowsR (b + v)))) % p < p := sR_lt hO.2.2.2
                    refine wp_iast0 rfl rfl (by omega) (wp_wr (l2 := [(r_Sums_spare, (up X (sS n D (sL n D u + sL n D v) + (u - sS n D (sL n D u)) * sW n D (sL n D v) + v - sS n D (sL n D v)) (((X (sS n D (sL n D u + sL n D v) + (u - sS n D (sL n D u)) * sW n D (sL n D v) + v - sS n D (sL n D v))) + (c * (σ r_Sums_sumRowsR (b + v)))) % p)))]) rfl ?_)
                    show en_wp k_X5_addProduct 135 [some (.inr (.inr (r_Shape0, 0))), some (.inr (.inr (r_Sums_spare, 0))), some (.inr (.inr (r_Sums_termRowsR, a))), some (.inr (.inr (r_Sums_sumRowsR, b))), some (.inl f), some (.inl W), some (.inl u), some (.inl c), some (.inl e), some (.inl v), some (.inl (sS n D (sL n D u + sL n D v) + (u - sS n D (sL n D u)) * sW n D (sL n D v) + v - sS n D (sL n D v)))] [] (srl σ [(r_Sums_spare, (up X (sS n D (sL n D u + sL n D v) + (u - sS n D (sL n D u)) * sW n D (sL n D v) + v - sS n D (sL n D v)) (((X (sS n D (sL n D u + sL n D v) + (u - sS n D (sL n D u)) * sW n D (sL n D v) + v - sS n D (sL n D v))) + (c * (σ r_Sums_sumRowsR (b + v)))) % p)))]) _
                    refine wp_run 2 (pc' := 70) (ls' := [some (.inr (.inr (r_Shape0, 0))), some (.inr (.inr (r_Sums_spare, 0))), some (.inr (.inr (r_Sums_termRowsR, a))), some (.inr (.inr (r_Sums_sumRowsR, b))), some (.inl f), some (.inl W), some (.inl u), some (.inl c), some (.inl e), some (.inl (v + 1)), some (.inl (sS n D (sL n D u + sL n D v) + (u - sS n D (sL n D u)) * sW n D (sL n D v) + v - sS n D (sL n D v)))]) (st' := []) (σ' := srl σ [(r_Sums_spare, (up X (sS n D (sL n D u + sL n D v) + (u - sS n D (sL n D u)) * sW n D (sL n D v) + v - sS n D (sL n D v)) (((X (sS n D (sL n D u + sL n D v) + (u - sS n D (sL n D u)) * sW n D (sL n D v) + v - sS n D (sL n D v))) + (c * (σ r_Sums_sumRowsR (b + v)))) % p)))]) rfl ?_
                    refine wp_sub (l := [some (.inr (.inr (r_Shape0, 0))), some (.inr (.inr (r_Sums_spare, 0))), some (.inr (.inr (r_Sums_termRowsR, a))), some (.inr (.inr (r_Sums_sumRowsR, b))), some (.inl f), some (.inl W), some (.inl u), some (.inl c), some (.inl e), some (.inl (v + 1)), none]) (And.intro rfl (And.intro rfl (And.intro rfl (And.intro rfl (And.intro rfl (And.intro rfl (And.intro rfl (And.intro rfl (And.intro rfl (And.intro rfl trivial)))))))))) ?_
                    exact ih_70 c e (v + 1) (up X (sS n D (sL n D u + sL n D v) + (u - sS n D (sL n D u)) * sW n D (sL n D v) + v - sS n D (sL n D v)) (((X (sS n D (sL n D u + sL n D v) + (u - sS n D (sL n D u)) * sW n D (sL n D v) + v - sS n D (sL n D v))) + (c * (σ r_Sums_sumRowsR (b + v)))) % p)) (by omega) hc he (by omega) (ap_hit hO (by omega) hX huu hvA (by omega) (by rw [hc]; exact mE_emod p _)) (by omega)
      refine wp_run 2 (pc' := 28) (ls' := [some (.inr (.inr (r_Shape0, 0))), some (.inr (.inr (r_Sums_spare, 0))), some (.inr (.inr (r_Sums_termRowsR, a))), some (.inr (.inr (r_Sums_sumRowsR, b))), some (.inl f), some (.inl W), some (.inl u), none, none, none, none]) (st' := [.inl W, .inl u]) (σ' := srl σ [(r_Sums_spare, X)]) rfl ?_
      refine wp_ic_ge rfl (by omega) (by omega) (fun h_7 => ?_) (fun h_7 => ?_)
      · show en_wp k_X5_addProduct 147 [some (.inr (.inr (r_Shape0, 0))), some (.inr (.inr (r_Sums_spare, 0))), some (.inr (.inr (r_Sums_termRowsR, a))), some (.inr (.inr (r_Sums_sumRowsR, b))), some (.inl f), some (.inl W), some (.inl u), none, none, none, none] [] (srl σ [(r_Sums_spare, X)]) _
        exact wp_vret rfl ⟨X, rfl, srl_eq (l' := [(r_Sums_spare, X)]) (And.intro rfl trivial) (And.intro rfl trivial), (ap_fin hX (by omega))⟩
      · show en_wp k_X5_addProduct 31 [some (.inr (.inr (r_Shape0, 0))), some (.inr (.inr (r_Sums_spare, 0))), some (.inr (.inr (r_Sums_termRowsR, a))), some (.inr (.inr (r_Sums_sumRowsR, b))), some (.inl f), some (.inl W), some (.inl u), none, none, none, none] [] (srl σ [(r_Sums_spare, X)]) _
        refine wp_run 4 (pc' := 37) (ls' := [some (.inr (.inr (r_Shape0, 0))), some (.inr (.inr (r_Sums_spare, 0))), some (.inr (.inr (r_Sums_termRowsR, a))), some (.inr (.inr (r_Sums_sumRowsR, b))), some (.inl f), some (.inl W), some (.inl u), none, none, none, none]) (st' := [.inl u, .inr (.inr (r_Sums_termRowsR, a)), .inl f, .inr (.inr (r_Shape0, 0))]) (σ' := srl σ [(r_Sums_spare, X)]) rfl ?_
        have hx1 := ga (a + u)
        have hfa : -97 ≤ f * σ r_Sums_termRowsR (a + u) ∧ f * σ r_Sums_termRowsR (a + u) ≤ 97 := by rcases hf with h | h <;> rw [h] <;> omega
        refine wp_iald rfl rfl (by omega) ?_
        show en_wp k_X5_addProduct 38 [some (.inr (.inr (r_Shape0, 0))), some (.inr (.inr (r_Sums_spare, 0))), some (.inr (.inr (r_Sums_termRowsR, a))), some (.inr (.inr (r_Sums_sumRowsR, b))), some (.inl f), some (.inl W), some (.inl u), none, none, none, none] [.inl (σ r_Sums_termRowsR (a + u)), .inl f, .inr (.inr (r_Shape0, 0))] (srl σ [(r_Sums_spare, X)]) _
        refine wp_run 1 (pc' := 39) (ls' := [some (.inr (.inr (r_Shape0, 0))), some (.inr (.inr (r_Sums_spare, 0))), some (.inr (.inr (r_Sums_termRowsR, a))), some (.inr (.inr (r_Sums_sumRowsR, b))), some (.inl f), some (.inl W), some (.inl u), none, none, none, none]) (st' := [.inl (f * (σ r_Sums_termRowsR (a + u))), .inr (.inr (r_Shape0, 0))]) (σ' := srl σ [(r_Sums_spare, X)]) rfl ?_
        refine wp_fnv (v := .inl ((f * (σ r_Sums_termRowsR (a + u))) % p)) rfl rfl rfl rfl (ct_X5_rest_Shape0 (srl σ [(r_Sums_spare, X)]) n D p (f * (σ r_Sums_termRowsR (a + u))) hI (by omega)) ?_
        show en_wp k_X5_addProduct 42 [some (.inr (.inr (r_Shape0, 0))), some (.inr (.inr (r_Sums_spare, 0))), some (.inr (.inr (r_Sums_termRowsR, a))), some (.inr (.inr (r_Sums_sumRowsR, b))), some (.inl f), some (.inl W), some (.inl u), none, none, none, none] [.inl ((f * (σ r_Sums_termRowsR (a + u))) % p)] (srl σ [(r_Sums_spare, X)]) _
        have q_8 : 0 ≤ (f * (σ r_Sums_termRowsR (a + u))) % p ∧ (f * (σ r_Sums_termRowsR (a + u))) % p < p := sR_lt hO.2.2.2
        refine wp_run 7 (pc' := 55) (ls' := [some (.inr (.inr (r_Shape0, 0))), some (.inr (.inr (r_Sums_spare, 0))), some (.inr (.inr (r_Sums_termRowsR, a))), some (.inr (.inr (r_Sums_sumRowsR, b))), some (.inl f), some (.inl W), some (.inl u), some (.inl ((f * (σ r_Sums_termRowsR (a + u))) % p)), none, none, none]) (st' := [.inl u, .inr (.inr (r_Shape0_lengths, 0)), .inl (σ r_Shape0_degree 0), .inr (.inr (r_Shape0, 0))]) (σ' := srl σ [(r_Sums_spare, X)]) rfl ?_
        have huw := sL_w hO hu.1 (by omega)
        refine wp_iald0 rfl rfl (by omega) ?_
        show en_wp k_X5_addProduct 56 [some (.inr (.inr (r_Shape0, 0))), some (.inr (.inr (r_Sums_spare, 0))), some (.inr (.inr (r_Sums_termRowsR, a))), some (.inr (.inr (r_Sums_sumRowsR, b))), some (.inl f), some (.inl W), some (.inl u), some (.inl ((f * (σ r_Sums_termRowsR (a + u))) % p)), none, none, none] [.inl (σ r_Shape0_lengths u), .inl (σ r_Shape0_degree 0), .inr (.inr (r_Shape0, 0))] (srl σ [(r_Sums_spare, X)]) _
        refine wp_run 1 (pc' := 57) (ls' := [some (.inr (.inr (r_Shape0, 0))), some (.inr (.inr (r_Sums_spare, 0))), some (.inr (.inr (r_Sums_termRowsR, a))), some (.inr (.inr (r_Sums_sumRowsR, b))), some (.inl f), some (.inl W), some (.inl u), some (.inl ((f * (σ r_Sums_termRowsR (a + u))) % p)), none, none, none]) (st' := [.inl ((σ r_Shape0_degree 0) - (σ r_Shape0_lengths u)), .inr (.inr (r_Shape0, 0))]) (σ' := srl σ [(r_Sums_spare, X)]) rfl ?_
        have hlu := hln u hu.1 (by omega)
        have hme : min (sS n D (((σ r_Shape0_degree 0) - (σ r_Shape0_lengths u)) + 1)) W = sS n D (D - sL n D u + 1) := by rw [hlu, hD, hW]; exact Int.min_eq_left (sS_mono hO.1.1 (by omega))
        refine wp_fnv (v := .inl (sS n D (((σ r_Shape0_degree 0) - (σ r_Shape0_lengths u)) + 1))) rfl rfl rfl rfl (ct_X5_wordsUpTo_Shape0 (srl σ [(r_Sums_spare, X)]) n D p ((σ r_Shape0_degree 0) - (σ r_Shape0_lengths u)) hI (by omega)) ?_
        show en_wp k_X5_addProduct 60 [some (.inr (.inr (r_Shape0, 0))), some (.inr (.inr (r_Sums_spare, 0))), some (.inr (.inr (r_Sums_termRowsR, a))), some (.inr (.inr (r_Sums_sumRowsR, b))), some (.inl f), some (.inl W), some (.inl u), some (.inl ((f * (σ r_Sums_termRowsR (a + u))) % p)), none, none, none] [.inl (sS n D (((σ r_Shape0_degree 0) - (σ r_Shape0_lengths u)) + 1))] (srl σ [(r_Sums_spare, X)]) _
        have q_9 : 0 ≤ sS n D (((σ r_Shape0_degree 0) - (σ r_Shape0_lengths u)) + 1) ∧ sS n D (((σ r_Shape0_degree 0) - (σ r_Shape0_lengths u)) + 1) ≤ 364 := sS_b hO
        refine wp_run 1 (pc' := 62) (ls' := [some (.inr (.inr (r_Shape0, 0))), some (.inr (.inr (r_Sums_spare, 0))), some (.inr (.inr (r_Sums_termRowsR, a))), some (.inr (.inr (r_Sums_sumRowsR, b))), some (.inl f), some (.inl W), some (.inl u), some (.inl ((f * (σ r_Sums_termRowsR (a + u))) % p)), none, none, none]) (st' := [.inl W, .inl (sS n D (((σ r_Shape0_degree 0) - (σ r_Shape0_lengths u)) + 1))]) (σ' := srl σ [(r_Sums_spare, X)]) rfl ?_
        refine wp_min rfl rfl (by omega) (by omega) ?_
        show en_wp k_X5_addProduct 65 [some (.inr (.inr (r_Shape0, 0))), some (.inr (.inr (r_Sums_spare, 0))), some (.inr (.inr (r_Sums_termRowsR, a))), some (.inr (.inr (r_Sums_sumRowsR, b))), some (.inl f), some (.inl W), some (.inl u), some (.inl ((f * (σ r_Sums_termRowsR (a + u))) % p)), none, none, none] [.inl (min (sS n D (((σ r_Shape0_degree 0) - (σ r_Shape0_lengths u)) + 1)) W)] (srl σ [(r_Sums_spare, X)]) _
        refine wp_run 3 (pc' := 70) (ls' := [some (.inr (.inr (r_Shape0, 0))), some (.inr (.inr (r_Sums_spare, 0))), some (.inr (.inr (r_Sums_termRowsR, a))), some (.inr (.inr (r_Sums_sumRowsR, b))), some (.inl f), some (.inl W), some (.inl u), some (.inl ((f * (σ r_Sums_termRowsR (a + u))) % p)), some (.inl (min (sS n D (((σ r_Shape0_degree 0) - (σ r_Shape0_lengths u)) + 1)) W)), some (.inl 0), none]) (st' := []) (σ' := srl σ [(r_Sums_spare, X)]) rfl ?_
        exact L_70 _ ((f * (σ r_Sums_termRowsR (a + u))) % p) (min (sS n D (((σ r_Shape0_degree 0) - (σ r_Shape0_lengths u)) + 1)) W) 0 X (by omega) rfl hme ⟨by omega, by rw [hme]; exact sS_nn hO.1.1⟩ hX (Nat.lt_succ_self _)
  refine wp_run 1 (pc' := 1) (ls' := [some (.inr (.inr (r_Shape0, 0))), some (.inr (.inr (r_Sums_spare, 0))), some (.inr (.inr (r_Sums_termRowsR, a))), some (.inr (.inr (r_Sums_sumRowsR, b))), some (.inl f), none, none, none, none, none, none]) (st' := [.inr (.inr (r_Shape0, 0))]) (σ' := srl σ []) rfl ?_
  refine wp_fnv (v := .inl (sS n D (D + 1))) rfl rfl rfl rfl (ct_X5_wordsInAll_Shape0 σ n D p hI) ?_
  show en_wp k_X5_addProduct 4 [some (.inr (.inr (r_Shape0, 0))), some (.inr (.inr (r_Sums_spare, 0))), some (.inr (.inr (r_Sums_termRowsR, a))), some (.inr (.inr (r_Sums_sumRowsR, b))), some (.inl f), none, none, none, none, none, none] [.inl (sS n D (D + 1))] (srl σ []) _
  have q_10 : 0 ≤ sS n D (D + 1) ∧ sS n D (D + 1) ≤ 364 := sS_b hO
  refine wp_run 6 (pc' := 10) (ls' := [some (.inr (.inr (r_Shape0, 0))), some (.inr (.inr (r_Sums_spare, 0))), some (.inr (.inr (r_Sums_termRowsR, a))), some (.inr (.inr (r_Sums_sumRowsR, b))), some (.inl f), none, none, none, none, none, none]) (st' := [.inl 364, .inl 364, .inl 364, .inl (sS n D (D + 1))]) (σ' := srl σ []) rfl ?_
  refine wp_min rfl rfl (by omega) (by omega) ?_
  show en_wp k_X5_addProduct 13 [some (.inr (.inr (r_Shape0, 0))), some (.inr (.inr (r_Sums_spare, 0))), some (.inr (.inr (r_Sums_termRowsR, a))), some (.inr (.inr (r_Sums_sumRowsR, b))), some (.inl f), none, none, none, none, none, none] [.inl (min 364 364), .inl 364, .inl (sS n D (D + 1))] (srl σ []) _
  refine wp_min rfl rfl (by omega) (by omega) ?_
  show en_wp k_X5_addProduct 16 [some (.inr (.inr (r_Shape0, 0))), some (.inr (.inr (r_Sums_spare, 0))), some (.inr (.inr (r_Sums_termRowsR, a))), some (.inr (.inr (r_Sums_sumRowsR, b))), some (.inl f), none, none, none, none, none, none] [.inl (min 364 (min 364 364)), .inl (sS n D (D + 1))] (srl σ []) _
  refine wp_min rfl rfl (by omega) (by omega) ?_
  show en_wp k_X5_addProduct 19 [some (.inr (.inr (r_Shape0, 0))), some (.inr (.inr (r_Sums_spare, 0))), some (.inr (.inr (r_Sums_termRowsR, a))), some (.inr (.inr (r_Sums_sumRowsR, b))), some (.inl f), none, none, none, none, none, none] [.inl (min (sS n D (D + 1)) (min 364 (min 364 364)))] (srl σ []) _
  refine wp_run 3 (pc' := 24) (ls' := [some (.inr (.inr (r_Shape0, 0))), some (.inr (.inr (r_Sums_spare, 0))), some (.inr (.inr (r_Sums_termRowsR, a))), some (.inr (.inr (r_Sums_sumRowsR, b))), some (.inl f), some (.inl (min (sS n D (D + 1)) (min 364 (min 364 364)))), some (.inl 0), none, none, none, none]) (st' := []) (σ' := srl σ []) rfl ?_
  refine wp_mem (srl_eq (l' := [(r_Sums_spare, (σ r_Sums_spare))]) trivial (And.intro rfl trivial)) ?_
  exact L_24 _ (min (sS n D (D + 1)) (min 364 (min 364 364))) 0 (σ r_Sums_spare) hmn (by omega) (ap_0 gtp) (Nat.lt_succ_self _)
theorem ct_X7_openTerm_s0 (σ : en_m) (n : Int) (D : Int) (p : Int) (d : Int) (s : Int) (hI : cS0 σ n D p) (hs : (σ r_Sums_shape) 0 = 0) (hd : 0 ≤ d ∧ d ≤ 4) (hg : s = 1 ∨ s = -1) : en_ct z_X7_openTerm [.inr (.inr (r_Sums, 0)), .inl d, .inl s] σ (fun r σ' => r = none ∧ σ' = srl σ [(r_Sums_termRowsR, (uR p d s (σ r_Sums_termRowsR)))]) := by
  show en_wp k_X7_openTerm 0 [some (.inr (.inr (r_Sums, 0))), some (.inl d), some (.inl s)] [] (srl σ []) (fun r σ' => r = none ∧ σ' = srl σ [(r_Sums_termRowsR, (uR p d s (σ r_Sums_termRowsR)))])
  have hI2 := hI
  obtain ⟨hO, hn, hD, hp, hm, hst, hln⟩ := hI2
  obtain ⟨⟨hO1, hO2⟩, ⟨hO3, hO4⟩, hO5, hO6, hO7, hO8⟩ := id hO
  have hAb := sS_b (k := D + 1) hO
  refine wp_run 3 (pc' := 5) (ls' := [some (.inr (.inr (r_Sums, 0))), some (.inl d), some (.inl s)]) (st' := [.inl d, .inr (.inr (r_Sums_termRows, 0))]) (σ' := srl σ []) rfl ?_
  refine wp_aald (m := 364) rfl rfl rfl (by omega) ?_
  show en_wp k_X7_openTerm 6 [some (.inr (.inr (r_Sums, 0))), some (.inl d), some (.inl s)] [.inr (.inr (r_Sums_termRowsR, (d * 364)))] (srl σ []) _
  refine wp_run 1 (pc' := 7) (ls' := [some (.inr (.inr (r_Sums, 0))), some (.inl d), some (.inl s)]) (st' := [.inl 0, .inr (.inr (r_Sums_termRowsR, (d * 364)))]) (σ' := srl σ []) rfl ?_
  refine wp_calls rfl rfl rfl rfl rfl (ct_J7_fill_53178_Sums_termRowsR σ (d * 364) 0) ?_
  rintro _ _ ⟨rfl, rfl⟩
  show en_wp k_X7_openTerm 10 [some (.inr (.inr (r_Sums, 0))), some (.inl d), some (.inl s)] [] (srl σ [(r_Sums_termRowsR, (seg (σ r_Sums_termRowsR) (d * 364) 364 (fun _ => 0)))]) _
  refine wp_run 3 (pc' := 15) (ls' := [some (.inr (.inr (r_Sums, 0))), some (.inl d), some (.inl s)]) (st' := [.inl d, .inr (.inr (r_Sums_termRows, 0))]) (σ' := srl σ [(r_Sums_termRowsR, (seg (σ r_Sums_termRowsR) (d * 364) 364 (fun _ => 0)))]) rfl ?_
  refine wp_aald (m := 364) rfl rfl rfl (by omega) ?_
  show en_wp k_X7_openTerm 16 [some (.inr (.inr (r_Sums, 0))), some (.inl d), some (.inl s)] [.inr (.inr (r_Sums_termRowsR, (d * 364)))] (srl σ [(r_Sums_termRowsR, (seg (σ r_Sums_termRowsR) (d * 364) 364 (fun _ => 0)))]) _
  refine wp_run 2 (pc' := 18) (ls' := [some (.inr (.inr (r_Sums, 0))), some (.inl d), some (.inl s)]) (st' := [.inr (.inr (r_Sums, 0)), .inl 0, .inr (.inr (r_Sums_termRowsR, (d * 364)))]) (σ' := srl σ [(r_Sums_termRowsR, (seg (σ r_Sums_termRowsR) (d * 364) 364 (fun _ => 0)))]) rfl ?_
  refine wp_get5 0 rfl rfl rfl rfl hs (by decide) ?_
  show en_wp k_X7_openTerm 21 [some (.inr (.inr (r_Sums, 0))), some (.inl d), some (.inl s)] [.inr (.inr (r_Shape0, 0)), .inl 0, .inr (.inr (r_Sums_termRowsR, (d * 364)))] (srl σ [(r_Sums_termRowsR, (seg (σ r_Sums_termRowsR) (d * 364) 364 (fun _ => 0)))]) _
  refine wp_run 1 (pc' := 22) (ls' := [some (.inr (.inr (r_Sums, 0))), some (.inl d), some (.inl s)]) (st' := [.inl s, .inr (.inr (r_Shape0, 0)), .inl 0, .inr (.inr (r_Sums_termRowsR, (d * 364)))]) (σ' := srl σ [(r_Sums_termRowsR, (seg (σ r_Sums_termRowsR) (d * 364) 364 (fun _ => 0)))]) rfl ?_
  refine wp_fnv (v := .inl (s % p)) rfl rfl rfl rfl (ct_X5_rest_Shape0 (srl σ [(r_Sums_termRowsR, (seg (σ r_Sums_termRowsR) (d * 364) 364 (fun _ => 0)))]) n D p s hI (by omega)) ?_
  show en_wp k_X7_openTerm 25 [some (.inr (.inr (r_Sums, 0))), some (.inl d), some (.inl s)] [.inl (s % p), .inl 0, .inr (.inr (r_Sums_termRowsR, (d * 364)))] (srl σ [(r_Sums_termRowsR, (seg (σ r_Sums_termRowsR) (d * 364) 364 (fun _ => 0)))]) _
  have q_1 : 0 ≤ s % p ∧ s % p < p := sR_lt hO.2.2.2
  refine wp_iast rfl rfl (by omega) (wp_wr (l2 := [(r_Sums_termRowsR, (up (seg (σ r_Sums_termRowsR) (d * 364) 364 (fun _ => 0)) ((d * 364) + 0) (s % p)))]) rfl ?_)
  show en_wp k_X7_openTerm 26 [some (.inr (.inr (r_Sums, 0))), some (.inl d), some (.inl s)] [] (srl σ [(r_Sums_termRowsR, (up (seg (σ r_Sums_termRowsR) (d * 364) 364 (fun _ => 0)) ((d * 364) + 0) (s % p)))]) _
  exact wp_vret rfl ⟨rfl, (by rw [Int.add_zero]; exact congrArg (fun z => srl σ [(r_Sums_termRowsR, z)]) (uR_up (uRw_0 p s) (uRw_n p s)))⟩
theorem ct_X7_openSum_s0 (σ : en_m) (n : Int) (D : Int) (p : Int) (d : Int) (hI : cS0 σ n D p) (hs : (σ r_Sums_shape) 0 = 0) (hd : 0 ≤ d ∧ d ≤ 4) : en_ct z_X7_openSum [.inr (.inr (r_Sums, 0)), .inl d] σ (fun r σ' => r = none ∧ σ' = srl σ [(r_Sums_sumRowsR, (seg (σ r_Sums_sumRowsR) (d * 364) 364 (fun _ => 0))), (r_Sums_termRowsR, (uR p d 1 (σ r_Sums_termRowsR)))]) := by
  show en_wp k_X7_openSum 0 [some (.inr (.inr (r_Sums, 0))), some (.inl d)] [] (srl σ []) (fun r σ' => r = none ∧ σ' = srl σ [(r_Sums_sumRowsR, (seg (σ r_Sums_sumRowsR) (d * 364) 364 (fun _ => 0))), (r_Sums_termRowsR, (uR p d 1 (σ r_Sums_termRowsR)))])
  have hI2 := hI
  obtain ⟨hO, hn, hD, hp, hm, hst, hln⟩ := hI2
  obtain ⟨⟨hO1, hO2⟩, ⟨hO3, hO4⟩, hO5, hO6, hO7, hO8⟩ := id hO
  have hAb := sS_b (k := D + 1) hO
  refine wp_run 3 (pc' := 5) (ls' := [some (.inr (.inr (r_Sums, 0))), some (.inl d)]) (st' := [.inl d, .inr (.inr (r_Sums_sumRows, 0))]) (σ' := srl σ []) rfl ?_
  refine wp_aald (m := 364) rfl rfl rfl (by omega) ?_
  show en_wp k_X7_openSum 6 [some (.inr (.inr (r_Sums, 0))), some (.inl d)] [.inr (.inr (r_Sums_sumRowsR, (d * 364)))] (srl σ []) _
  refine wp_run 1 (pc' := 7) (ls' := [some (.inr (.inr (r_Sums, 0))), some (.inl d)]) (st' := [.inl 0, .inr (.inr (r_Sums_sumRowsR, (d * 364)))]) (σ' := srl σ []) rfl ?_
  refine wp_calls rfl rfl rfl rfl rfl (ct_J7_fill_53178_Sums_sumRowsR σ (d * 364) 0) ?_
  rintro _ _ ⟨rfl, rfl⟩
  show en_wp k_X7_openSum 10 [some (.inr (.inr (r_Sums, 0))), some (.inl d)] [] (srl σ [(r_Sums_sumRowsR, (seg (σ r_Sums_sumRowsR) (d * 364) 364 (fun _ => 0)))]) _
  refine wp_run 3 (pc' := 13) (ls' := [some (.inr (.inr (r_Sums, 0))), some (.inl d)]) (st' := [.inl 1, .inl d, .inr (.inr (r_Sums, 0))]) (σ' := srl σ [(r_Sums_sumRowsR, (seg (σ r_Sums_sumRowsR) (d * 364) 364 (fun _ => 0)))]) rfl ?_
  refine wp_callv rfl rfl rfl rfl (ct_X7_openTerm_s0 (srl σ [(r_Sums_sumRowsR, (seg (σ r_Sums_sumRowsR) (d * 364) 364 (fun _ => 0)))]) n D p d 1 hI (by first | exact hs | rfl) (by omega) (by omega)) ?_
  rintro _ _ ⟨rfl, rfl⟩
  refine wp_bk (l2 := [(r_Sums_sumRowsR, (seg (σ r_Sums_sumRowsR) (d * 364) 364 (fun _ => 0))), (r_Sums_termRowsR, (uR p d 1 (σ r_Sums_termRowsR)))]) rfl rfl ?_
  show en_wp k_X7_openSum 16 [some (.inr (.inr (r_Sums, 0))), some (.inl d)] [] (srl σ [(r_Sums_sumRowsR, (seg (σ r_Sums_sumRowsR) (d * 364) 364 (fun _ => 0))), (r_Sums_termRowsR, (uR p d 1 (σ r_Sums_termRowsR)))]) _
  exact wp_vret rfl ⟨rfl, rfl⟩
theorem ct_X7_shutTerm_s0 (σ : en_m) (n : Int) (D : Int) (p : Int) (d : Int) (hI : cS0 σ n D p) (hs : (σ r_Sums_shape) 0 = 0) (hd : 0 ≤ d ∧ d ≤ 4) (hS3 : R97 ((σ r_Sums_sumRowsR))) (hT3 : R97 ((σ r_Sums_termRowsR))) : en_ct z_X7_shutTerm [.inr (.inr (r_Sums, 0)), .inl d] σ (fun r σ' => r = none ∧ σ' = srl σ [(r_Sums_sumRowsR, (aR p d (σ r_Sums_sumRowsR) (σ r_Sums_termRowsR)))]) := by
  show en_wp k_X7_shutTerm 0 [some (.inr (.inr (r_Sums, 0))), some (.inl d), none, none, none] [] (srl σ []) (fun r σ' => r = none ∧ σ' = srl σ [(r_Sums_sumRowsR, (aR p d (σ r_Sums_sumRowsR) (σ r_Sums_termRowsR)))])
  have hI2 := hI
  obtain ⟨hO, hn, hD, hp, hm, hst, hln⟩ := hI2
  obtain ⟨⟨hO1, hO2⟩, ⟨hO3, hO4⟩, hO5, hO6, hO7, hO8⟩ := id hO
  have hAb := sS_b (k := D + 1) hO
  have L_17 : ∀ (N : Nat) (k : Int) (X : Int → Int), (0 ≤ k ∧ k ≤ 364) → (X = seg (σ r_Sums_sumRowsR) (d * 364) k (fun x => (σ r_Sums_sumRowsR (d * 364 + x) + σ r_Sums_termRowsR (d * 364 + x)) % p)) → (364 - k).toNat < N → en_wp k_X7_shutTerm 17 [some (.inr (.inr (r_Sums, 0))), some (.inl d), some (.inr (.inr (r_Sums_sumRowsR, d * 364))), some (.inr (.inr (r_Sums_termRowsR, d * 364))), some (.inl k)] [] (srl σ [(r_Sums_sumRowsR, X)]) (fun r σ' => r = none ∧ σ' = srl σ [(r_Sums_sumRowsR, (aR p d (σ r_Sums_sumRowsR) (σ r_Sums_termRowsR)))]) := by
    intro N
    induction N with
    | zero => intro k X; intros; omega
    | succ N ih_17 =>
      intro k X hk hX hN_17
      refine wp_run 2 (pc' := 22) (ls' := [some (.inr (.inr (r_Sums, 0))), some (.inl d), some (.inr (.inr (r_Sums_sumRowsR, d * 364))), some (.inr (.inr (r_Sums_termRowsR, d * 364))), some (.inl k)]) (st' := [.inl 364, .inl k]) (σ' := srl σ [(r_Sums_sumRowsR, X)]) rfl ?_
      refine wp_ic_ge rfl (by omega) (by omega) (fun h_1 => ?_) (fun h_1 => ?_)
      · show en_wp k_X7_shutTerm 51 [some (.inr (.inr (r_Sums, 0))), some (.inl d), some (.inr (.inr (r_Sums_sumRowsR, d * 364))), some (.inr (.inr (r_Sums_termRowsR, d * 364))), some (.inl k)] [] (srl σ [(r_Sums_sumRowsR, X)]) _
        exact wp_vret rfl ⟨rfl, (by rw [hX, show k = 364 by omega]; rfl)⟩
      · show en_wp k_X7_shutTerm 25 [some (.inr (.inr (r_Sums, 0))), some (.inl d), some (.inr (.inr (r_Sums_sumRowsR, d * 364))), some (.inr (.inr (r_Sums_termRowsR, d * 364))), some (.inl k)] [] (srl σ [(r_Sums_sumRowsR, X)]) _
        refine wp_run 3 (pc' := 29) (ls' := [some (.inr (.inr (r_Sums, 0))), some (.inl d), some (.inr (.inr (r_Sums_sumRowsR, d * 364))), some (.inr (.inr (r_Sums_termRowsR, d * 364))), some (.inl k)]) (st' := [.inr (.inr (r_Sums, 0)), .inl k, .inr (.inr (r_Sums_sumRowsR, d * 364))]) (σ' := srl σ [(r_Sums_sumRowsR, X)]) rfl ?_
        refine wp_get5 0 rfl rfl rfl rfl hs (by decide) ?_
        show en_wp k_X7_shutTerm 32 [some (.inr (.inr (r_Sums, 0))), some (.inl d), some (.inr (.inr (r_Sums_sumRowsR, d * 364))), some (.inr (.inr (r_Sums_termRowsR, d * 364))), some (.inl k)] [.inr (.inr (r_Shape0, 0)), .inl k, .inr (.inr (r_Sums_sumRowsR, d * 364))] (srl σ [(r_Sums_sumRowsR, X)]) _
        refine wp_run 2 (pc' := 35) (ls' := [some (.inr (.inr (r_Sums, 0))), some (.inl d), some (.inr (.inr (r_Sums_sumRowsR, d * 364))), some (.inr (.inr (r_Sums_termRowsR, d * 364))), some (.inl k)]) (st' := [.inl k, .inr (.inr (r_Sums_sumRowsR, d * 364)), .inr (.inr (r_Shape0, 0)), .inl k, .inr (.inr (r_Sums_sumRowsR, d * 364))]) (σ' := srl σ [(r_Sums_sumRowsR, X)]) rfl ?_
        refine wp_iald rfl rfl (by omega) ?_
        show en_wp k_X7_shutTerm 36 [some (.inr (.inr (r_Sums, 0))), some (.inl d), some (.inr (.inr (r_Sums_sumRowsR, d * 364))), some (.inr (.inr (r_Sums_termRowsR, d * 364))), some (.inl k)] [.inl (X (d * 364 + k)), .inr (.inr (r_Shape0, 0)), .inl k, .inr (.inr (r_Sums_sumRowsR, d * 364))] (srl σ [(r_Sums_sumRowsR, X)]) _
        refine wp_run 2 (pc' := 39) (ls' := [some (.inr (.inr (r_Sums, 0))), some (.inl d), some (.inr (.inr (r_Sums_sumRowsR, d * 364))), some (.inr (.inr (r_Sums_termRowsR, d * 364))), some (.inl k)]) (st' := [.inl k, .inr (.inr (r_Sums_termRowsR, d * 364)), .inl (X (d * 364 + k)), .inr (.inr (r_Shape0, 0)), .inl k, .inr (.inr (r_Sums_sumRowsR, d * 364))]) (σ' := srl σ [(r_Sums_sumRowsR, X)]) rfl ?_
        refine wp_iald rfl rfl (by omega) ?_
        show en_wp k_X7_shutTerm 40 [some (.inr (.inr (r_Sums, 0))), some (.inl d), some (.inr (.inr (r_Sums_sumRowsR, d * 364))), some (.inr (.inr (r_Sums_termRowsR, d * 364))), some (.inl k)] [.inl (σ r_Sums_termRowsR (d * 364 + k)), .inl (X (d * 364 + k)), .inr (.inr (r_Shape0, 0)), .inl k, .inr (.inr (r_Sums_sumRowsR, d * 364))] (srl σ [(r_Sums_sumRowsR, X)]) _
        refine wp_run 1 (pc' := 41) (ls' := [some (.inr (.inr (r_Sums, 0))), some (.inl d), some (.inr (.inr (r_Sums_sumRowsR, d * 364))), some (.inr (.inr (r_Sums_termRowsR, d * 364))), some (.inl k)]) (st' := [.inl ((X (d * 364 + k)) + (σ r_Sums_termRowsR (d * 364 + k))), .inr (.inr (r_Shape0, 0)), .inl k, .inr (.inr (r_Sums_sumRowsR, d * 364))]) (σ' := srl σ [(r_Sums_sumRowsR, X)]) rfl ?_
        have e1 : X (d * 364 + k) = σ r_Sums_sumRowsR (d * 364 + k) := by rw [hX]; exact seg_out (by omega)
        have e2 := hS3 (d * 364 + k)
        have e3 := hT3 (d * 364 + k)
        refine wp_fnv (v := .inl (((X (d * 364 + k)) + (σ r_Sums_termRowsR (d * 364 + k))) % p)) rfl rfl rfl rfl (ct_X5_rest_Shape0 (srl σ [(r_Sums_sumRowsR, X)]) n D p ((X (d * 364 + k)) + (σ r_Sums_termRowsR (d * 364 + k))) hI (by omega)) ?_
        show en_wp k_X7_shutTerm 44 [some (.inr (.inr (r_Sums, 0))), some (.inl d), some (.inr (.inr (r_Sums_sumRowsR, d * 364))), some (.inr (.inr (r_Sums_termRowsR, d * 364))), some (.inl k)] [.inl (((X (d * 364 + k)) + (σ r_Sums_termRowsR (d * 364 + k))) % p), .inl k, .inr (.inr (r_Sums_sumRowsR, d * 364))] (srl σ [(r_Sums_sumRowsR, X)]) _
        have q_2 : 0 ≤ ((X (d * 364 + k)) + (σ r_Sums_termRowsR (d * 364 + k))) % p ∧ ((X (d * 364 + k)) + (σ r_Sums_termRowsR (d * 364 + k))) % p < p := sR_lt hO.2.2.2
        refine wp_iast rfl rfl (by omega) (wp_wr (l2 := [(r_Sums_sumRowsR, (up X (d * 364 + k) (((X (d * 364 + k)) + (σ r_Sums_termRowsR (d * 364 + k))) % p)))]) rfl ?_)
        show en_wp k_X7_shutTerm 45 [some (.inr (.inr (r_Sums, 0))), some (.inl d), some (.inr (.inr (r_Sums_sumRowsR, d * 364))), some (.inr (.inr (r_Sums_termRowsR, d * 364))), some (.inl k)] [] (srl σ [(r_Sums_sumRowsR, (up X (d * 364 + k) (((X (d * 364 + k)) + (σ r_Sums_termRowsR (d * 364 + k))) % p)))]) _
        refine wp_run 2 (pc' := 17) (ls' := [some (.inr (.inr (r_Sums, 0))), some (.inl d), some (.inr (.inr (r_Sums_sumRowsR, d * 364))), some (.inr (.inr (r_Sums_termRowsR, d * 364))), some (.inl (k + 1))]) (st' := []) (σ' := srl σ [(r_Sums_sumRowsR, (up X (d * 364 + k) (((X (d * 364 + k)) + (σ r_Sums_termRowsR (d * 364 + k))) % p)))]) rfl ?_
        exact ih_17 (k + 1) (up X (d * 364 + k) (((X (d * 364 + k)) + (σ r_Sums_termRowsR (d * 364 + k))) % p)) (by omega) (by rw [e1, hX]; exact seg_up hk.1 rfl) (by omega)
  refine wp_run 3 (pc' := 5) (ls' := [some (.inr (.inr (r_Sums, 0))), some (.inl d), none, none, none]) (st' := [.inl d, .inr (.inr (r_Sums_sumRows, 0))]) (σ' := srl σ []) rfl ?_
  refine wp_aald (m := 364) rfl rfl rfl (by omega) ?_
  show en_wp k_X7_shutTerm 6 [some (.inr (.inr (r_Sums, 0))), some (.inl d), none, none, none] [.inr (.inr (r_Sums_sumRowsR, (d * 364)))] (srl σ []) _
  refine wp_run 4 (pc' := 12) (ls' := [some (.inr (.inr (r_Sums, 0))), some (.inl d), some (.inr (.inr (r_Sums_sumRowsR, (d * 364)))), none, none]) (st' := [.inl d, .inr (.inr (r_Sums_termRows, 0))]) (σ' := srl σ []) rfl ?_
  refine wp_aald (m := 364) rfl rfl rfl (by omega) ?_
  show en_wp k_X7_shutTerm 13 [some (.inr (.inr (r_Sums, 0))), some (.inl d), some (.inr (.inr (r_Sums_sumRowsR, (d * 364)))), none, none] [.inr (.inr (r_Sums_termRowsR, (d * 364)))] (srl σ []) _
  refine wp_run 3 (pc' := 17) (ls' := [some (.inr (.inr (r_Sums, 0))), some (.inl d), some (.inr (.inr (r_Sums_sumRowsR, (d * 364)))), some (.inr (.inr (r_Sums_termRowsR, (d * 364)))), some (.inl 0)]) (st' := []) (σ' := srl σ []) rfl ?_
  refine wp_mem (srl_eq (l' := [(r_Sums_sumRowsR, (σ r_Sums_sumRowsR))]) trivial (And.intro rfl trivial)) ?_
  exact L_17 _ 0 (σ r_Sums_sumRowsR) (by omega) (seg_0 _ _ _).symm (Nat.lt_succ_self _)
theorem ct_X7_multiplyByNumber_s0 (σ : en_m) (n : Int) (D : Int) (p : Int) (d : Int) (v : Int) (hI : cS0 σ n D p) (hs : (σ r_Sums_shape) 0 = 0) (hd : 0 ≤ d ∧ d ≤ 4) (hv : 0 ≤ v ∧ v ≤ 9999) (hT3 : R97 ((σ r_Sums_termRowsR))) : en_ct z_X7_multiplyByNumber [.inr (.inr (r_Sums, 0)), .inl d, .inl v] σ (fun r σ' => r = none ∧ σ' = srl σ [(r_Sums_termRowsR, (nR p d v (σ r_Sums_termRowsR)))]) := by
  show en_wp k_X7_multiplyByNumber 0 [some (.inr (.inr (r_Sums, 0))), some (.inl d), some (.inl v), none, none] [] (srl σ []) (fun r σ' => r = none ∧ σ' = srl σ [(r_Sums_termRowsR, (nR p d v (σ r_Sums_termRowsR)))])
  have hI2 := hI
  obtain ⟨hO, hn, hD, hp, hm, hst, hln⟩ := hI2
  obtain ⟨⟨hO1, hO2⟩, ⟨hO3, hO4⟩, hO5, hO6, hO7, hO8⟩ := id hO
  have hAb := sS_b (k := D + 1) hO
  have L_10 : ∀ (N : Nat) (k : Int) (X : Int → Int), (0 ≤ k ∧ k ≤ 364) → (X = seg (σ r_Sums_termRowsR) (d * 364) k (fun x => (σ r_Sums_termRowsR (d * 364 + x) * v) % p)) → (364 - k).toNat < N → en_wp k_X7_multiplyByNumber 10 [some (.inr (.inr (r_Sums, 0))), some (.inl d), some (.inl v), some (.inr (.inr (r_Sums_termRowsR, d * 364))), some (.inl k)] [] (srl σ [(r_Sums_termRowsR, X)]) (fun r σ' => r = none ∧ σ' = srl σ [(r_Sums_termRowsR, (nR p d v (σ r_Sums_termRowsR)))]) := by
    intro N
    induction N with
    | zero => intro k X; intros; omega
    | succ N ih_10 =>
      intro k X hk hX hN_10
      refine wp_run 2 (pc' := 15) (ls' := [some (.inr (.inr (r_Sums, 0))), some (.inl d), some (.inl v), some (.inr (.inr (r_Sums_termRowsR, d * 364))), some (.inl k)]) (st' := [.inl 364, .inl k]) (σ' := srl σ [(r_Sums_termRowsR, X)]) rfl ?_
      refine wp_ic_ge rfl (by omega) (by omega) (fun h_1 => ?_) (fun h_1 => ?_)
      · show en_wp k_X7_multiplyByNumber 41 [some (.inr (.inr (r_Sums, 0))), some (.inl d), some (.inl v), some (.inr (.inr (r_Sums_termRowsR, d * 364))), some (.inl k)] [] (srl σ [(r_Sums_termRowsR, X)]) _
        exact wp_vret rfl ⟨rfl, (by rw [hX, show k = 364 by omega]; rfl)⟩
      · show en_wp k_X7_multiplyByNumber 18 [some (.inr (.inr (r_Sums, 0))), some (.inl d), some (.inl v), some (.inr (.inr (r_Sums_termRowsR, d * 364))), some (.inl k)] [] (srl σ [(r_Sums_termRowsR, X)]) _
        refine wp_run 3 (pc' := 22) (ls' := [some (.inr (.inr (r_Sums, 0))), some (.inl d), some (.inl v), some (.inr (.inr (r_Sums_termRowsR, d * 364))), some (.inl k)]) (st' := [.inr (.inr (r_Sums, 0)), .inl k, .inr (.inr (r_Sums_termRowsR, d * 364))]) (σ' := srl σ [(r_Sums_termRowsR, X)]) rfl ?_
        refine wp_get5 0 rfl rfl rfl rfl hs (by decide) ?_
        show en_wp k_X7_multiplyByNumber 25 [some (.inr (.inr (r_Sums, 0))), some (.inl d), some (.inl v), some (.inr (.inr (r_Sums_termRowsR, d * 364))), some (.inl k)] [.inr (.inr (r_Shape0, 0)), .inl k, .inr (.inr (r_Sums_termRowsR, d * 364))] (srl σ [(r_Sums_termRowsR, X)]) _
        refine wp_run 2 (pc' := 28) (ls' := [some (.inr (.inr (r_Sums, 0))), some (.inl d), some (.inl v), some (.inr (.inr (r_Sums_termRowsR, d * 364))), some (.inl k)]) (st' := [.inl k, .inr (.inr (r_Sums_termRowsR, d * 364)), .inr (.inr (r_Shape0, 0)), .inl k, .inr (.inr (r_Sums_termRowsR, d * 364))]) (σ' := srl σ [(r_Sums_termRowsR, X)]) rfl ?_
        refine wp_iald rfl rfl (by omega) ?_
        show en_wp k_X7_multiplyByNumber 29 [some (.inr (.inr (r_Sums, 0))), some (.inl d), some (.inl v), some (.inr (.inr (r_Sums_termRowsR, d * 364))), some (.inl k)] [.inl (X (d * 364 + k)), .inr (.inr (r_Shape0, 0)), .inl k, .inr (.inr (r_Sums_termRowsR, d * 364))] (srl σ [(r_Sums_termRowsR, X)]) _
        refine wp_run 2 (pc' := 31) (ls' := [some (.inr (.inr (r_Sums, 0))), some (.inl d), some (.inl v), some (.inr (.inr (r_Sums_termRowsR, d * 364))), some (.inl k)]) (st' := [.inl ((X (d * 364 + k)) * v), .inr (.inr (r_Shape0, 0)), .inl k, .inr (.inr (r_Sums_termRowsR, d * 364))]) (σ' := srl σ [(r_Sums_termRowsR, X)]) rfl ?_
        have e1 : X (d * 364 + k) = σ r_Sums_termRowsR (d * 364 + k) := by rw [hX]; exact seg_out (by omega)
        have e3 := m99 (hT3 (d * 364 + k)) hv
        rw [← e1] at e3
        refine wp_fnv (v := .inl (((X (d * 364 + k)) * v) % p)) rfl rfl rfl rfl (ct_X5_rest_Shape0 (srl σ [(r_Sums_termRowsR, X)]) n D p ((X (d * 364 + k)) * v) hI (by omega)) ?_
        show en_wp k_X7_multiplyByNumber 34 [some (.inr (.inr (r_Sums, 0))), some (.inl d), some (.inl v), some (.inr (.inr (r_Sums_termRowsR, d * 364))), some (.inl k)] [.inl (((X (d * 364 + k)) * v) % p), .inl k, .inr (.inr (r_Sums_termRowsR, d * 364))] (srl σ [(r_Sums_termRowsR, X)]) _
        have q_2 : 0 ≤ ((X (d * 364 + k)) * v) % p ∧ ((X (d * 364 + k)) * v) % p < p := sR_lt hO.2.2.2
        refine wp_iast rfl rfl (by omega) (wp_wr (l2 := [(r_Sums_termRowsR, (up X (d * 364 + k) (((X (d * 364 + k)) * v) % p)))]) rfl ?_)
        show en_wp k_X7_multiplyByNumber 35 [some (.inr (.inr (r_Sums, 0))), some (.inl d), some (.inl v), some (.inr (.inr (r_Sums_termRowsR, d * 364))), some (.inl k)] [] (srl σ [(r_Sums_termRowsR, (up X (d * 364 + k) (((X (d * 364 + k)) * v) % p)))]) _
        refine wp_run 2 (pc' := 10) (ls' := [some (.inr (.inr (r_Sums, 0))), some (.inl d), some (.inl v), some (.inr (.inr (r_Sums_termRowsR, d * 364))), some (.inl (k + 1))]) (st' := []) (σ' := srl σ [(r_Sums_termRowsR, (up X (d * 364 + k) (((X (d * 364 + k)) * v) % p)))]) rfl ?_
        exact ih_10 (k + 1) (up X (d * 364 + k) (((X (d * 364 + k)) * v) % p)) (by omega) (by rw [e1, hX]; exact seg_up hk.1 rfl) (by omega)
  refine wp_run 3 (pc' := 5) (ls' := [some (.inr (.inr (r_Sums, 0))), some (.inl d), some (.inl v), none, none]) (st' := [.inl d, .inr (.inr (r_Sums_termRows, 0))]) (σ' := srl σ []) rfl ?_
  refine wp_aald (m := 364) rfl rfl rfl (by omega) ?_
  show en_wp k_X7_multiplyByNumber 6 [some (.inr (.inr (r_Sums, 0))), some (.inl d), some (.inl v), none, none] [.inr (.inr (r_Sums_termRowsR, (d * 364)))] (srl σ []) _
  refine wp_run 3 (pc' := 10) (ls' := [some (.inr (.inr (r_Sums, 0))), some (.inl d), some (.inl v), some (.inr (.inr (r_Sums_termRowsR, (d * 364)))), some (.inl 0)]) (st' := []) (σ' := srl σ []) rfl ?_
  refine wp_mem (srl_eq (l' := [(r_Sums_termRowsR, (σ r_Sums_termRowsR))]) trivial (And.intro rfl trivial)) ?_
  exact L_10 _ 0 (σ r_Sums_termRowsR) (by omega) (seg_0 _ _ _).symm (Nat.lt_succ_self _)
theorem ct_X7_multiplyByLetter_s0 (σ : en_m) (n : Int) (D : Int) (p : Int) (d : Int) (x : Int) (hI : cS0 σ n D p) (hs : (σ r_Sums_shape) 0 = 0) (hd : 0 ≤ d ∧ d ≤ 4) (hx : 0 ≤ x ∧ x < n) (hT3 : R97 ((σ r_Sums_termRowsR))) (hC3 : R97 ((σ r_Sums_spare))) (hTp : ∀ u, 0 ≤ u → u < 364 → (σ r_Sums_termRowsR) (d * 364 + u) < p) : en_ct z_X7_multiplyByLetter [.inr (.inr (r_Sums, 0)), .inl d, .inl x] σ (fun r σ' => ∃ (f_Sums_spare : Int → Int), ∃ (f_Sums_termRowsR : Int → Int), r = none ∧ σ' = srl σ [(r_Sums_spare, f_Sums_spare), (r_Sums_termRowsR, f_Sums_termRowsR)] ∧ (R97 f_Sums_spare) ∧ (f_Sums_termRowsR = lR n D p d x (σ r_Sums_termRowsR))) := by
  show en_wp k_X7_multiplyByLetter 0 [some (.inr (.inr (r_Sums, 0))), some (.inl d), some (.inl x), none, none, none, none, none] [] (srl σ []) (fun r σ' => ∃ (f_Sums_spare : Int → Int), ∃ (f_Sums_termRowsR : Int → Int), r = none ∧ σ' = srl σ [(r_Sums_spare, f_Sums_spare), (r_Sums_termRowsR, f_Sums_termRowsR)] ∧ (R97 f_Sums_spare) ∧ (f_Sums_termRowsR = lR n D p d x (σ r_Sums_termRowsR)))
  have hI2 := hI
  obtain ⟨hO, hn, hD, hp, hm, hst, hln⟩ := hI2
  obtain ⟨⟨hO1, hO2⟩, ⟨hO3, hO4⟩, hO5, hO6, hO7, hO8⟩ := id hO
  have hAb := sS_b (k := D + 1) hO
  have L_27 : ∀ (N : Nat) (l : Int) (C : Int → Int), (0 ≤ l ∧ l ≤ D) → (lI n D x (fun u => σ r_Sums_termRowsR (d * 364 + u)) C (sS n D l)) → (R97 C) → (D - l).toNat < N → en_wp k_X7_multiplyByLetter 27 [some (.inr (.inr (r_Sums, 0))), some (.inl d), some (.inl x), some (.inr (.inr (r_Sums_termRowsR, d * 364))), some (.inl n), some (.inl l), none, none] [] (srl σ [(r_Sums_spare, C)]) (fun r σ' => ∃ (f_Sums_spare : Int → Int), ∃ (f_Sums_termRowsR : Int → Int), r = none ∧ σ' = srl σ [(r_Sums_spare, f_Sums_spare), (r_Sums_termRowsR, f_Sums_termRowsR)] ∧ (R97 f_Sums_spare) ∧ (f_Sums_termRowsR = lR n D p d x (σ r_Sums_termRowsR))) := by
    intro N
    induction N with
    | zero => intro l C; intros; omega
    | succ N ih_27 =>
      intro l C hl hC hC4 hN_27
      have hWb := sW_b (k := l) hO
      have L_42 : ∀ (N : Nat) (w : Int) (C : Int → Int), (l < D) → (0 ≤ w ∧ w ≤ sW n D l) → (lI n D x (fun u => σ r_Sums_termRowsR (d * 364 + u)) C (sS n D l + w)) → (R97 C) → (sW n D l - w).toNat < N → en_wp k_X7_multiplyByLetter 42 [some (.inr (.inr (r_Sums, 0))), some (.inl d), some (.inl x), some (.inr (.inr (r_Sums_termRowsR, d * 364))), some (.inl n), some (.inl l), some (.inl w), none] [] (srl σ [(r_Sums_spare, C)]) (fun r σ' => ∃ (f_Sums_spare : Int → Int), ∃ (f_Sums_termRowsR : Int → Int), r = none ∧ σ' = srl σ [(r_Sums_spare, f_Sums_spare), (r_Sums_termRowsR, f_Sums_termRowsR)] ∧ (R97 f_Sums_spare) ∧ (f_Sums_termRowsR = lR n D p d x (σ r_Sums_termRowsR))) := by
        intro N
        induction N with
        | zero => intro w C; intros; omega
        | succ N ih_42 =>
          intro w C hl2 hw hC hC4 hN_42
          refine wp_run 2 (pc' := 45) (ls' := [some (.inr (.inr (r_Sums, 0))), some (.inl d), some (.inl x), some (.inr (.inr (r_Sums_termRowsR, d * 364))), some (.inl n), some (.inl l), some (.inl w), none]) (st' := [.inr (.inr (r_Sums, 0)), .inl w]) (σ' := srl σ [(r_Sums_spare, C)]) rfl ?_
          refine wp_get5 0 rfl rfl rfl rfl hs (by decide) ?_
          show en_wp k_X7_multiplyByLetter 48 [some (.inr (.inr (r_Sums, 0))), some (.inl d), some (.inl x), some (.inr (.inr (r_Sums_termRowsR, d * 364))), some (.inl n), some (.inl l), some (.inl w), none] [.inr (.inr (r_Shape0, 0)), .inl w] (srl σ [(r_Sums_spare, C)]) _
          refine wp_run 1 (pc' := 50) (ls' := [some (.inr (.inr (r_Sums, 0))), some (.inl d), some (.inl x), some (.inr (.inr (r_Sums_termRowsR, d * 364))), some (.inl n), some (.inl l), some (.inl w), none]) (st' := [.inl l, .inr (.inr (r_Shape0, 0)), .inl w]) (σ' := srl σ [(r_Sums_spare, C)]) rfl ?_
          refine wp_fnv (v := .inl (sW n D l)) rfl rfl rfl rfl (ct_X5_wordsOf_Shape0 (srl σ [(r_Sums_spare, C)]) n D p l hI (by omega)) ?_
          show en_wp k_X7_multiplyByLetter 53 [some (.inr (.inr (r_Sums, 0))), some (.inl d), some (.inl x), some (.inr (.inr (r_Sums_termRowsR, d * 364))), some (.inl n), some (.inl l), some (.inl w), none] [.inl (sW n D l), .inl w] (srl σ [(r_Sums_spare, C)]) _
          have q_1 : 0 ≤ sW n D l ∧ sW n D l ≤ 256 := sW_b hO
          refine wp_ic_ge rfl (by omega) (by omega) (fun h_2 => ?_) (fun h_2 => ?_)
          · show en_wp k_X7_multiplyByLetter 112 [some (.inr (.inr (r_Sums, 0))), some (.inl d), some (.inl x), some (.inr (.inr (r_Sums_termRowsR, d * 364))), some (.inl n), some (.inl l), some (.inl w), none] [] (srl σ [(r_Sums_spare, C)]) _
            refine wp_run 2 (pc' := 27) (ls' := [some (.inr (.inr (r_Sums, 0))), some (.inl d), some (.inl x), some (.inr (.inr (r_Sums_termRowsR, d * 364))), some (.inl n), some (.inl (l + 1)), some (.inl w), none]) (st' := []) (σ' := srl σ [(r_Sums_spare, C)]) rfl ?_
            refine wp_sub (l := [some (.inr (.inr (r_Sums, 0))), some (.inl d), some (.inl x), some (.inr (.inr (r_Sums_termRowsR, d * 364))), some (.inl n), some (.inl (l + 1)), none, none]) (And.intro rfl (And.intro rfl (And.intro rfl (And.intro rfl (And.intro rfl (And.intro rfl trivial)))))) ?_
            exact ih_27 (l + 1) C (by omega) (by rw [sS_succ hl.1, show sW n D l = w by omega]; exact hC) hC4 (by omega)
          · show en_wp k_X7_multiplyByLetter 56 [some (.inr (.inr (r_Sums, 0))), some (.inl d), some (.inl x), some (.inr (.inr (r_Sums_termRowsR, d * 364))), some (.inl n), some (.inl l), some (.inl w), none] [] (srl σ [(r_Sums_spare, C)]) _
            refine wp_run 1 (pc' := 57) (ls' := [some (.inr (.inr (r_Sums, 0))), some (.inl d), some (.inl x), some (.inr (.inr (r_Sums_termRowsR, d * 364))), some (.inl n), some (.inl l), some (.inl w), none]) (st' := [.inr (.inr (r_Sums, 0))]) (σ' := srl σ [(r_Sums_spare, C)]) rfl ?_
            refine wp_get5 0 rfl rfl rfl rfl hs (by decide) ?_
            show en_wp k_X7_multiplyByLetter 60 [some (.inr (.inr (r_Sums, 0))), some (.inl d), some (.inl x), some (.inr (.inr (r_Sums_termRowsR, d * 364))), some (.inl n), some (.inl l), some (.inl w), none] [.inr (.inr (r_Shape0, 0))] (srl σ [(r_Sums_spare, C)]) _
            refine wp_run 3 (pc' := 64) (ls' := [some (.inr (.inr (r_Sums, 0))), some (.inl d), some (.inl x), some (.inr (.inr (r_Sums_termRowsR, d * 364))), some (.inl n), some (.inl l), some (.inl w), none]) (st' := [.inl (l + 1), .inr (.inr (r_Shape0, 0))]) (σ' := srl σ [(r_Sums_spare, C)]) rfl ?_
            have hll := sL_word hO hl.1 (w := w) (by omega)
            have hss := sS_word hO hl.1 (w := w) (by omega)
            have hsm := sS_mono (D := D) hO.1.1 (show l + 1 ≤ D by omega)
            have hsc := sS_succ (n := n) (D := D) hl.1
            have hsb := sS_b (k := D + 1) hO
            have hsl := sS_b (k := l + 1) hO
            have hbi := bLt_in hO hx (u := sS n D l + w) (by omega) (by rw [hll]; omega)
            have hat : bLt n D x (sS n D l + w) = sS n D (l + 1) + w * n + x := by unfold bLt; rw [hll, show sS n D l + w - sS n D l = w by omega]
            rw [hat, hll] at hbi
            have hbp := hbi.2.2
            have hwn : 0 ≤ w * n := Int.mul_nonneg hw.1 hO.1.1
            refine wp_fnv (v := .inl (sS n D (l + 1))) rfl rfl rfl rfl (ct_X5_startOf_Shape0_p (srl σ [(r_Sums_spare, C)]) n D p (l + 1) hI (by omega)) ?_
            show en_wp k_X7_multiplyByLetter 67 [some (.inr (.inr (r_Sums, 0))), some (.inl d), some (.inl x), some (.inr (.inr (r_Sums_termRowsR, d * 364))), some (.inl n), some (.inl l), some (.inl w), none] [.inl (sS n D (l + 1))] (srl σ [(r_Sums_spare, C)]) _
            have q_3 : 0 ≤ sS n D (l + 1) ∧ sS n D (l + 1) ≤ 364 := sS_b hO
            refine wp_run 9 (pc' := 82) (ls' := [some (.inr (.inr (r_Sums, 0))), some (.inl d), some (.inl x), some (.inr (.inr (r_Sums_termRowsR, d * 364))), some (.inl n), some (.inl l), some (.inl w), some (.inl (((sS n D (l + 1)) + (w * n)) + x))]) (st' := [.inl 364, .inl (((sS n D (l + 1)) + (w * n)) + x)]) (σ' := srl σ [(r_Sums_spare, C)]) rfl ?_
            refine wp_ic_ge rfl (by omega) (by omega) (fun h_4 => ?_) (fun h_4 => ?_)
            · exfalso; omega
            · show en_wp k_X7_multiplyByLetter 85 [some (.inr (.inr (r_Sums, 0))), some (.inl d), some (.inl x), some (.inr (.inr (r_Sums_termRowsR, d * 364))), some (.inl n), some (.inl l), some (.inl w), some (.inl (((sS n D (l + 1)) + (w * n)) + x))] [] (srl σ [(r_Sums_spare, C)]) _
              refine wp_run 5 (pc' := 93) (ls' := [some (.inr (.inr (r_Sums, 0))), some (.inl d), some (.inl x), some (.inr (.inr (r_Sums_termRowsR, d * 364))), some (.inl n), some (.inl l), some (.inl w), some (.inl (((sS n D (l + 1)) + (w * n)) + x))]) (st' := [.inr (.inr (r_Sums, 0)), .inr (.inr (r_Sums_termRowsR, d * 364)), .inl (((sS n D (l + 1)) + (w * n)) + x), .inr (.inr (r_Sums_spare, 0))]) (σ' := srl σ [(r_Sums_spare, C)]) rfl ?_
              refine wp_get5 0 rfl rfl rfl rfl hs (by decide) ?_
              show en_wp k_X7_multiplyByLetter 96 [some (.inr (.inr (r_Sums, 0))), some (.inl d), some (.inl x), some (.inr (.inr (r_Sums_termRowsR, d * 364))), some (.inl n), some (.inl l), some (.inl w), some (.inl (((sS n D (l + 1)) + (w * n)) + x))] [.inr (.inr (r_Shape0, 0)), .inr (.inr (r_Sums_termRowsR, d * 364)), .inl (((sS n D (l + 1)) + (w * n)) + x), .inr (.inr (r_Sums_spare, 0))] (srl σ [(r_Sums_spare, C)]) _
              refine wp_run 1 (pc' := 98) (ls' := [some (.inr (.inr (r_Sums, 0))), some (.inl d), some (.inl x), some (.inr (.inr (r_Sums_termRowsR, d * 364))), some (.inl n), some (.inl l), some (.inl w), some (.inl (((sS n D (l + 1)) + (w * n)) + x))]) (st' := [.inl l, .inr (.inr (r_Shape0, 0)), .inr (.inr (r_Sums_termRowsR, d * 364)), .inl (((sS n D (l + 1)) + (w * n)) + x), .inr (.inr (r_Sums_spare, 0))]) (σ' := srl σ [(r_Sums_spare, C)]) rfl ?_
              refine wp_fnv (v := .inl (sS n D l)) rfl rfl rfl rfl (ct_X5_startOf_Shape0_p (srl σ [(r_Sums_spare, C)]) n D p l hI (by omega)) ?_
              show en_wp k_X7_multiplyByLetter 101 [some (.inr (.inr (r_Sums, 0))), some (.inl d), some (.inl x), some (.inr (.inr (r_Sums_termRowsR, d * 364))), some (.inl n), some (.inl l), some (.inl w), some (.inl (((sS n D (l + 1)) + (w * n)) + x))] [.inl (sS n D l), .inr (.inr (r_Sums_termRowsR, d * 364)), .inl (((sS n D (l + 1)) + (w * n)) + x), .inr (.inr (r_Sums_spare, 0))] (srl σ [(r_Sums_spare, C)]) _
              have q_5 : 0 ≤ sS n D l ∧ sS n D l ≤ 364 := sS_b hO
              refine wp_run 2 (pc' := 104) (ls' := [some (.inr (.inr (r_Sums, 0))), some (.inl d), some (.inl x), some (.inr (.inr (r_Sums_termRowsR, d * 364))), some (.inl n), some (.inl l), some (.inl w), some (.inl (((sS n D (l + 1)) + (w * n)) + x))]) (st' := [.inl ((sS n D l) + w), .inr (.inr (r_Sums_termRowsR, d * 364)), .inl (((sS n D (l + 1)) + (w * n)) + x), .inr (.inr (r_Sums_spare, 0))]) (σ' := srl σ [(r_Sums_spare, C)]) rfl ?_
              refine wp_iald rfl rfl (by omega) ?_
              show en_wp k_X7_multiplyByLetter 105 [some (.inr (.inr (r_Sums, 0))), some (.inl d), some (.inl x), some (.inr (.inr (r_Sums_termRowsR, d * 364))), some (.inl n), some (.inl l), some (.inl w), some (.inl (((sS n D (l + 1)) + (w * n)) + x))] [.inl (σ r_Sums_termRowsR (d * 364 + ((sS n D l) + w))), .inl (((sS n D (l + 1)) + (w * n)) + x), .inr (.inr (r_Sums_spare, 0))] (srl σ [(r_Sums_spare, C)]) _
              refine wp_iast0 rfl rfl (by omega) (wp_wr (l2 := [(r_Sums_spare, (up C (((sS n D (l + 1)) + (w * n)) + x) (σ r_Sums_termRowsR (d * 364 + ((sS n D l) + w)))))]) rfl ?_)
              show en_wp k_X7_multiplyByLetter 106 [some (.inr (.inr (r_Sums, 0))), some (.inl d), some (.inl x), some (.inr (.inr (r_Sums_termRowsR, d * 364))), some (.inl n), some (.inl l), some (.inl w), some (.inl (((sS n D (l + 1)) + (w * n)) + x))] [] (srl σ [(r_Sums_spare, (up C (((sS n D (l + 1)) + (w * n)) + x) (σ r_Sums_termRowsR (d * 364 + ((sS n D l) + w)))))]) _
              refine wp_run 2 (pc' := 42) (ls' := [some (.inr (.inr (r_Sums, 0))), some (.inl d), some (.inl x), some (.inr (.inr (r_Sums_termRowsR, d * 364))), some (.inl n), some (.inl l), some (.inl (w + 1)), some (.inl (((sS n D (l + 1)) + (w * n)) + x))]) (st' := []) (σ' := srl σ [(r_Sums_spare, (up C (((sS n D (l + 1)) + (w * n)) + x) (σ r_Sums_termRowsR (d * 364 + ((sS n D l) + w)))))]) rfl ?_
              refine wp_sub (l := [some (.inr (.inr (r_Sums, 0))), some (.inl d), some (.inl x), some (.inr (.inr (r_Sums_termRowsR, d * 364))), some (.inl n), some (.inl l), some (.inl (w + 1)), none]) (And.intro rfl (And.intro rfl (And.intro rfl (And.intro rfl (And.intro rfl (And.intro rfl (And.intro rfl trivial))))))) ?_
              exact ih_42 (w + 1) (up C (((sS n D (l + 1)) + (w * n)) + x) (σ r_Sums_termRowsR (d * 364 + ((sS n D l) + w)))) (by omega) (by omega) (by have e9 := lI_s hO hx (u := sS n D l + w) (by omega) hC; rw [hat] at e9; rw [show sS n D l + (w + 1) = sS n D l + w + 1 by omega]; exact e9) (R97_up hC4 (hT3 _)) (by omega)
      refine wp_run 2 (pc' := 30) (ls' := [some (.inr (.inr (r_Sums, 0))), some (.inl d), some (.inl x), some (.inr (.inr (r_Sums_termRowsR, d * 364))), some (.inl n), some (.inl l), none, none]) (st' := [.inr (.inr (r_Sums, 0)), .inl l]) (σ' := srl σ [(r_Sums_spare, C)]) rfl ?_
      refine wp_get5 0 rfl rfl rfl rfl hs (by decide) ?_
      show en_wp k_X7_multiplyByLetter 33 [some (.inr (.inr (r_Sums, 0))), some (.inl d), some (.inl x), some (.inr (.inr (r_Sums_termRowsR, d * 364))), some (.inl n), some (.inl l), none, none] [.inr (.inr (r_Shape0, 0)), .inl l] (srl σ [(r_Sums_spare, C)]) _
      refine wp_fnv (v := .inl D) rfl rfl rfl rfl (ct_X5_longest_Shape0 (srl σ [(r_Sums_spare, C)]) n D p hI) ?_
      show en_wp k_X7_multiplyByLetter 36 [some (.inr (.inr (r_Sums, 0))), some (.inl d), some (.inl x), some (.inr (.inr (r_Sums_termRowsR, d * 364))), some (.inl n), some (.inl l), none, none] [.inl D, .inl l] (srl σ [(r_Sums_spare, C)]) _
      refine wp_ic_ge rfl (by omega) (by omega) (fun h_6 => ?_) (fun h_6 => ?_)
      · show en_wp k_X7_multiplyByLetter 118 [some (.inr (.inr (r_Sums, 0))), some (.inl d), some (.inl x), some (.inr (.inr (r_Sums_termRowsR, d * 364))), some (.inl n), some (.inl l), none, none] [] (srl σ [(r_Sums_spare, C)]) _
        refine wp_run 6 (pc' := 128) (ls' := [some (.inr (.inr (r_Sums, 0))), some (.inl d), some (.inl x), some (.inr (.inr (r_Sums_termRowsR, d * 364))), some (.inl n), some (.inl l), none, none]) (st' := [.inl 364, .inl 0, .inr (.inr (r_Sums_termRowsR, d * 364)), .inl 0, .inr (.inr (r_Sums_spare, 0))]) (σ' := srl σ [(r_Sums_spare, C)]) rfl ?_
        refine wp_copy rfl rfl rfl rfl (by omega) (by omega) (by omega) (wp_wr (l2 := [(r_Sums_spare, C), (r_Sums_termRowsR, (en_cpy C (σ r_Sums_termRowsR) (0 + 0) (d * 364 + 0) 364))]) rfl ?_)
        show en_wp k_X7_multiplyByLetter 131 [some (.inr (.inr (r_Sums, 0))), some (.inl d), some (.inl x), some (.inr (.inr (r_Sums_termRowsR, d * 364))), some (.inl n), some (.inl l), none, none] [] (srl σ [(r_Sums_spare, C), (r_Sums_termRowsR, (en_cpy C (σ r_Sums_termRowsR) (0 + 0) (d * 364 + 0) 364))]) _
        exact wp_vret rfl ⟨C, (en_cpy C (σ r_Sums_termRowsR) (0 + 0) (d * 364 + 0) 364), rfl, srl_eq (l' := [(r_Sums_spare, C), (r_Sums_termRowsR, (en_cpy C (σ r_Sums_termRowsR) (0 + 0) (d * 364 + 0) 364))]) (And.intro rfl (And.intro rfl trivial)) (And.intro rfl (And.intro rfl trivial)), ⟨hC4, by rw [show (0 : Int) + 0 = 0 from rfl, Int.add_zero]; exact sg_cp (fun y a b => lI_fin hO hx (fun u u0 u1 => ⟨(hT3 _).1, hTp u u0 (by have := sS_b (k := D + 1) hO; omega)⟩) (by rw [show D = l by omega]; rw [show l = D by omega] at hC; rw [show l = D by omega]; exact hC) y ⟨a, b⟩)⟩⟩
      · show en_wp k_X7_multiplyByLetter 39 [some (.inr (.inr (r_Sums, 0))), some (.inl d), some (.inl x), some (.inr (.inr (r_Sums_termRowsR, d * 364))), some (.inl n), some (.inl l), none, none] [] (srl σ [(r_Sums_spare, C)]) _
        refine wp_run 2 (pc' := 42) (ls' := [some (.inr (.inr (r_Sums, 0))), some (.inl d), some (.inl x), some (.inr (.inr (r_Sums_termRowsR, d * 364))), some (.inl n), some (.inl l), some (.inl 0), none]) (st' := []) (σ' := srl σ [(r_Sums_spare, C)]) rfl ?_
        exact L_42 _ 0 C (by omega) (by omega) (by rw [Int.add_zero]; exact hC) hC4 (Nat.lt_succ_self _)
  refine wp_run 3 (pc' := 5) (ls' := [some (.inr (.inr (r_Sums, 0))), some (.inl d), some (.inl x), none, none, none, none, none]) (st' := [.inl d, .inr (.inr (r_Sums_termRows, 0))]) (σ' := srl σ []) rfl ?_
  refine wp_aald (m := 364) rfl rfl rfl (by omega) ?_
  show en_wp k_X7_multiplyByLetter 6 [some (.inr (.inr (r_Sums, 0))), some (.inl d), some (.inl x), none, none, none, none, none] [.inr (.inr (r_Sums_termRowsR, (d * 364)))] (srl σ []) _
  refine wp_run 2 (pc' := 8) (ls' := [some (.inr (.inr (r_Sums, 0))), some (.inl d), some (.inl x), some (.inr (.inr (r_Sums_termRowsR, (d * 364)))), none, none, none, none]) (st' := [.inr (.inr (r_Sums, 0))]) (σ' := srl σ []) rfl ?_
  refine wp_get5 0 rfl rfl rfl rfl hs (by decide) ?_
  show en_wp k_X7_multiplyByLetter 11 [some (.inr (.inr (r_Sums, 0))), some (.inl d), some (.inl x), some (.inr (.inr (r_Sums_termRowsR, (d * 364)))), none, none, none, none] [.inr (.inr (r_Shape0, 0))] (srl σ []) _
  refine wp_fnv (v := .inl n) rfl rfl rfl rfl (ct_X5_lettersTold_Shape0 σ n D p hI) ?_
  show en_wp k_X7_multiplyByLetter 14 [some (.inr (.inr (r_Sums, 0))), some (.inl d), some (.inl x), some (.inr (.inr (r_Sums_termRowsR, (d * 364)))), none, none, none, none] [.inl n] (srl σ []) _
  refine wp_run 4 (pc' := 21) (ls' := [some (.inr (.inr (r_Sums, 0))), some (.inl d), some (.inl x), some (.inr (.inr (r_Sums_termRowsR, (d * 364)))), some (.inl n), none, none, none]) (st' := [.inl 0, .inr (.inr (r_Sums_spare, 0))]) (σ' := srl σ []) rfl ?_
  refine wp_calls rfl rfl rfl rfl rfl (ct_J7_fill_53178_Sums_spare σ 0) ?_
  rintro _ _ ⟨rfl, rfl⟩
  show en_wp k_X7_multiplyByLetter 24 [some (.inr (.inr (r_Sums, 0))), some (.inl d), some (.inl x), some (.inr (.inr (r_Sums_termRowsR, (d * 364)))), some (.inl n), none, none, none] [] (srl σ [(r_Sums_spare, (seg (σ r_Sums_spare) 0 364 (fun _ => 0)))]) _
  refine wp_run 2 (pc' := 27) (ls' := [some (.inr (.inr (r_Sums, 0))), some (.inl d), some (.inl x), some (.inr (.inr (r_Sums_termRowsR, (d * 364)))), some (.inl n), some (.inl 0), none, none]) (st' := []) (σ' := srl σ [(r_Sums_spare, (seg (σ r_Sums_spare) 0 364 (fun _ => 0)))]) rfl ?_
  exact L_27 _ 0 (seg (σ r_Sums_spare) 0 364 (fun _ => 0)) (by omega) ⟨fun v a b => by rw [sS_0] at b; omega, fun y _ a b => seg_in0 (g := fun _ => 0) ⟨a, b⟩⟩ (R97_seg hC3 (fun _ _ _ => by decide)) (Nat.lt_succ_self _)
theorem ct_X7_multiplyByRow_s0 (σ : en_m) (n : Int) (D : Int) (p : Int) (d : Int) (row : Int) (hI : cS0 σ n D p) (hs : (σ r_Sums_shape) 0 = 0) (hd : 0 ≤ d ∧ d ≤ 4) (hS3 : R97 ((σ r_Sums_sumRowsR))) (hT3 : R97 ((σ r_Sums_termRowsR))) (hC3 : R97 ((σ r_Sums_spare))) : en_ct z_X7_multiplyByRow [.inr (.inr (r_Sums, 0)), .inl d, .inr (.inr (r_Sums_sumRowsR, row))] σ (fun r σ' => ∃ (f_Sums_spare : Int → Int), ∃ (f_Sums_termRowsR : Int → Int), r = none ∧ σ' = srl σ [(r_Sums_spare, f_Sums_spare), (r_Sums_termRowsR, f_Sums_termRowsR)] ∧ (R97 f_Sums_spare) ∧ (f_Sums_termRowsR = seg (σ r_Sums_termRowsR) (d * 364) 364 (fun y => prd n D (fun u => (σ r_Sums_termRowsR) (d * 364 + u)) (fun u => (σ r_Sums_sumRowsR) (row + u)) y % p))) := by
  show en_wp k_X7_multiplyByRow 0 [some (.inr (.inr (r_Sums, 0))), some (.inl d), some (.inr (.inr (r_Sums_sumRowsR, row)))] [] (srl σ []) (fun r σ' => ∃ (f_Sums_spare : Int → Int), ∃ (f_Sums_termRowsR : Int → Int), r = none ∧ σ' = srl σ [(r_Sums_spare, f_Sums_spare), (r_Sums_termRowsR, f_Sums_termRowsR)] ∧ (R97 f_Sums_spare) ∧ (f_Sums_termRowsR = seg (σ r_Sums_termRowsR) (d * 364) 364 (fun y => prd n D (fun u => (σ r_Sums_termRowsR) (d * 364 + u)) (fun u => (σ r_Sums_sumRowsR) (row + u)) y % p)))
  have hI2 := hI
  obtain ⟨hO, hn, hD, hp, hm, hst, hln⟩ := hI2
  obtain ⟨⟨hO1, hO2⟩, ⟨hO3, hO4⟩, hO5, hO6, hO7, hO8⟩ := id hO
  have hAb := sS_b (k := D + 1) hO
  refine wp_run 3 (pc' := 5) (ls' := [some (.inr (.inr (r_Sums, 0))), some (.inl d), some (.inr (.inr (r_Sums_sumRowsR, row)))]) (st' := [.inl 0, .inr (.inr (r_Sums_spare, 0))]) (σ' := srl σ []) rfl ?_
  refine wp_calls rfl rfl rfl rfl rfl (ct_J7_fill_53178_Sums_spare σ 0) ?_
  rintro _ _ ⟨rfl, rfl⟩
  show en_wp k_X7_multiplyByRow 8 [some (.inr (.inr (r_Sums, 0))), some (.inl d), some (.inr (.inr (r_Sums_sumRowsR, row)))] [] (srl σ [(r_Sums_spare, (seg (σ r_Sums_spare) 0 364 (fun _ => 0)))]) _
  refine wp_run 1 (pc' := 9) (ls' := [some (.inr (.inr (r_Sums, 0))), some (.inl d), some (.inr (.inr (r_Sums_sumRowsR, row)))]) (st' := [.inr (.inr (r_Sums, 0))]) (σ' := srl σ [(r_Sums_spare, (seg (σ r_Sums_spare) 0 364 (fun _ => 0)))]) rfl ?_
  refine wp_get5 0 rfl rfl rfl rfl hs (by decide) ?_
  show en_wp k_X7_multiplyByRow 12 [some (.inr (.inr (r_Sums, 0))), some (.inl d), some (.inr (.inr (r_Sums_sumRowsR, row)))] [.inr (.inr (r_Shape0, 0))] (srl σ [(r_Sums_spare, (seg (σ r_Sums_spare) 0 364 (fun _ => 0)))]) _
  refine wp_run 5 (pc' := 21) (ls' := [some (.inr (.inr (r_Sums, 0))), some (.inl d), some (.inr (.inr (r_Sums_sumRowsR, row)))]) (st' := [.inl d, .inr (.inr (r_Sums_termRows, 0)), .inr (.inr (r_Sums_spare, 0)), .inr (.inr (r_Shape0, 0))]) (σ' := srl σ [(r_Sums_spare, (seg (σ r_Sums_spare) 0 364 (fun _ => 0)))]) rfl ?_
  refine wp_aald (m := 364) rfl rfl rfl (by omega) ?_
  show en_wp k_X7_multiplyByRow 22 [some (.inr (.inr (r_Sums, 0))), some (.inl d), some (.inr (.inr (r_Sums_sumRowsR, row)))] [.inr (.inr (r_Sums_termRowsR, (d * 364))), .inr (.inr (r_Sums_spare, 0)), .inr (.inr (r_Shape0, 0))] (srl σ [(r_Sums_spare, (seg (σ r_Sums_spare) 0 364 (fun _ => 0)))]) _
  refine wp_run 2 (pc' := 24) (ls' := [some (.inr (.inr (r_Sums, 0))), some (.inl d), some (.inr (.inr (r_Sums_sumRowsR, row)))]) (st' := [.inl 1, .inr (.inr (r_Sums_sumRowsR, row)), .inr (.inr (r_Sums_termRowsR, (d * 364))), .inr (.inr (r_Sums_spare, 0)), .inr (.inr (r_Shape0, 0))]) (σ' := srl σ [(r_Sums_spare, (seg (σ r_Sums_spare) 0 364 (fun _ => 0)))]) rfl ?_
  refine wp_callv rfl rfl rfl rfl (ct_X5_addProduct_Shape0_Sums_spare_Sums_termRowsR_Sums_sumRowsR (srl σ [(r_Sums_spare, (seg (σ r_Sums_spare) 0 364 (fun _ => 0)))]) n D p (d * 364) row 1 hI (by omega) hT3 hS3 (fill_0 (by omega) (by omega))) ?_
  rintro _ _ ⟨f_1, rfl, rfl, p_2, p_3⟩
  have p_2 : ∀ x, 0 ≤ x → x < sS n D (D + 1) → (0 ≤ f_1 x ∧ f_1 x < p) ∧ mE p (f_1 x) ((seg (σ r_Sums_spare) 0 364 (fun _ => 0)) x + 1 * prd n D (fun x => (σ r_Sums_termRowsR) ((d * 364) + x)) (fun x => (σ r_Sums_sumRowsR) (row + x)) x) := p_2
  have p_3 : ∀ x, ¬ (0 ≤ x ∧ x < sS n D (D + 1)) → f_1 x = (seg (σ r_Sums_spare) 0 364 (fun _ => 0)) x := p_3
  refine wp_bk (l2 := [(r_Sums_spare, f_1)]) rfl rfl ?_
  show en_wp k_X7_multiplyByRow 27 [some (.inr (.inr (r_Sums, 0))), some (.inl d), some (.inr (.inr (r_Sums_sumRowsR, row)))] [] (srl σ [(r_Sums_spare, f_1)]) _
  have kk := (⟨p_2, p_3⟩ : _ ∧ _)
  refine wp_run 6 (pc' := 37) (ls' := [some (.inr (.inr (r_Sums, 0))), some (.inl d), some (.inr (.inr (r_Sums_sumRowsR, row)))]) (st' := [.inl d, .inr (.inr (r_Sums_termRows, 0)), .inl 0, .inr (.inr (r_Sums_spare, 0))]) (σ' := srl σ [(r_Sums_spare, f_1)]) rfl ?_
  refine wp_aald (m := 364) rfl rfl rfl (by omega) ?_
  show en_wp k_X7_multiplyByRow 38 [some (.inr (.inr (r_Sums, 0))), some (.inl d), some (.inr (.inr (r_Sums_sumRowsR, row)))] [.inr (.inr (r_Sums_termRowsR, (d * 364))), .inl 0, .inr (.inr (r_Sums_spare, 0))] (srl σ [(r_Sums_spare, f_1)]) _
  refine wp_run 2 (pc' := 42) (ls' := [some (.inr (.inr (r_Sums, 0))), some (.inl d), some (.inr (.inr (r_Sums_sumRowsR, row)))]) (st' := [.inl 364, .inl 0, .inr (.inr (r_Sums_termRowsR, (d * 364))), .inl 0, .inr (.inr (r_Sums_spare, 0))]) (σ' := srl σ [(r_Sums_spare, f_1)]) rfl ?_
  refine wp_copy rfl rfl rfl rfl (by omega) (by omega) (by omega) (wp_wr (l2 := [(r_Sums_spare, f_1), (r_Sums_termRowsR, (en_cpy f_1 (σ r_Sums_termRowsR) (0 + 0) ((d * 364) + 0) 364))]) rfl ?_)
  show en_wp k_X7_multiplyByRow 45 [some (.inr (.inr (r_Sums, 0))), some (.inl d), some (.inr (.inr (r_Sums_sumRowsR, row)))] [] (srl σ [(r_Sums_spare, f_1), (r_Sums_termRowsR, (en_cpy f_1 (σ r_Sums_termRowsR) (0 + 0) ((d * 364) + 0) 364))]) _
  exact wp_vret rfl ⟨f_1, (en_cpy f_1 (σ r_Sums_termRowsR) (0 + 0) ((d * 364) + 0) 364), rfl, srl_eq (l' := [(r_Sums_spare, f_1), (r_Sums_termRowsR, (en_cpy f_1 (σ r_Sums_termRowsR) (0 + 0) ((d * 364) + 0) 364))]) (And.intro rfl (And.intro rfl trivial)) (And.intro rfl (And.intro rfl trivial)), ⟨mi_97 hO (R97_seg hC3 (fun _ _ _ => by decide)) (fun x h8 h9 => (kk.1 x h8 h9).1) kk.2, by rw [show (0 : Int) + 0 = 0 from rfl, Int.add_zero]; exact sg_cp (fun y a b => mR_fin hO (fun x a b => seg_in0 (g := fun _ => 0) ⟨a, b⟩) kk.1 kk.2 y a b)⟩⟩
theorem ct_X5_addProduct_Shape1_Sums_spare_Sums_termRowsR_Sums_sumRowsR (σ : en_m) (n : Int) (D : Int) (p : Int) (a : Int) (b : Int) (f : Int) (hI : cS1 σ n D p) (hf : f = 1 ∨ f = -1) (ga : R97 ((σ r_Sums_termRowsR))) (gb : R97 ((σ r_Sums_sumRowsR))) (gtp : ∀ x, 0 ≤ x → x < sS n D (D + 1) → 0 ≤ (σ r_Sums_spare) x ∧ (σ r_Sums_spare) x < p) : en_ct z_X5_addProduct [.inr (.inr (r_Shape1, 0)), .inr (.inr (r_Sums_spare, 0)), .inr (.inr (r_Sums_termRowsR, a)), .inr (.inr (r_Sums_sumRowsR, b)), .inl f] σ (fun r σ' => ∃ (f_Sums_spare : Int → Int), r = none ∧ σ' = srl σ [(r_Sums_spare, f_Sums_spare)] ∧ (∀ x, 0 ≤ x → x < sS n D (D + 1) → (0 ≤ f_Sums_spare x ∧ f_Sums_spare x < p) ∧ mE p (f_Sums_spare x) ((σ r_Sums_spare) x + f * prd n D (fun x => (σ r_Sums_termRowsR) (a + x)) (fun x => (σ r_Sums_sumRowsR) (b + x)) x)) ∧ (∀ x, ¬ (0 ≤ x ∧ x < sS n D (D + 1)) → f_Sums_spare x = (σ r_Sums_spare) x)) := by
  show en_wp k_X5_addProduct 0 [some (.inr (.inr (r_Shape1, 0))), some (.inr (.inr (r_Sums_spare, 0))), some (.inr (.inr (r_Sums_termRowsR, a))), some (.inr (.inr (r_Sums_sumRowsR, b))), some (.inl f), none, none, none, none, none, none] [] (srl σ []) (fun r σ' => ∃ (f_Sums_spare : Int → Int), r = none ∧ σ' = srl σ [(r_Sums_spare, f_Sums_spare)] ∧ (∀ x, 0 ≤ x → x < sS n D (D + 1) → (0 ≤ f_Sums_spare x ∧ f_Sums_spare x < p) ∧ mE p (f_Sums_spare x) ((σ r_Sums_spare) x + f * prd n D (fun x => (σ r_Sums_termRowsR) (a + x)) (fun x => (σ r_Sums_sumRowsR) (b + x)) x)) ∧ (∀ x, ¬ (0 ≤ x ∧ x < sS n D (D + 1)) → f_Sums_spare x = (σ r_Sums_spare) x))
  have hI2 := hI
  obtain ⟨hO, hn, hD, hp, hm, hst, hln⟩ := hI2
  obtain ⟨⟨hO1, hO2⟩, ⟨hO3, hO4⟩, hO5, hO6, hO7, hO8⟩ := id hO
  have hAb := sS_b (k := D + 1) hO
  have hmn : min (sS n D (D + 1)) (min 364 (min 364 364)) = sS n D (D + 1) := Int.min_eq_left (by omega)
  have L_24 : ∀ (N : Nat) (W : Int) (u : Int) (X : Int → Int), (W = sS n D (D + 1)) → (0 ≤ u ∧ u ≤ sS n D (D + 1)) → (apI n D p f (σ r_Sums_spare) (fun x => σ r_Sums_termRowsR (a + x)) (fun x => σ r_Sums_sumRowsR (b + x)) X u 0) → (sS n D (D + 1) - u).toNat < N → en_wp k_X5_addProduct 24 [some (.inr (.inr (r_Shape1, 0))), some (.inr (.inr (r_Sums_spare, 0))), some (.inr (.inr (r_Sums_termRowsR, a))), some (.inr (.inr (r_Sums_sumRowsR, b))), some (.inl f), some (.inl W), some (.inl u), none, none, none, none] [] (srl σ [(r_Sums_spare, X)]) (fun r σ' => ∃ (f_Sums_spare : Int → Int), r = none ∧ σ' = srl σ [(r_Sums_spare, f_Sums_spare)] ∧ (∀ x, 0 ≤ x → x < sS n D (D + 1) → (0 ≤ f_Sums_spare x ∧ f_Sums_spare x < p) ∧ mE p (f_Sums_spare x) ((σ r_Sums_spare) x + f * prd n D (fun x => (σ r_Sums_termRowsR) (a + x)) (fun x => (σ r_Sums_sumRowsR) (b + x)) x)) ∧ (∀ x, ¬ (0 ≤ x ∧ x < sS n D (D + 1)) → f_Sums_spare x = (σ r_Sums_spare) x)) := by
    intro N
    induction N with
    | zero => intro W u X; intros; omega
    | succ N ih_24 =>
      intro W u X hW hu hX hN_24
      have L_70 : ∀ (N : Nat) (c : Int) (e : Int) (v : Int) (X : Int → Int), (0 ≤ u ∧ u < sS n D (D + 1)) → (c = (f * (fun x => σ r_Sums_termRowsR (a + x)) u) % p) → (e = sS n D (D - sL n D u + 1)) → (0 ≤ v ∧ v ≤ e) → (apI n D p f (σ r_Sums_spare) (fun x => σ r_Sums_termRowsR (a + x)) (fun x => σ r_Sums_sumRowsR (b + x)) X u v) → (e - v).toNat < N → en_wp k_X5_addProduct 70 [some (.inr (.inr (r_Shape1, 0))), some (.inr (.inr (r_Sums_spare, 0))), some (.inr (.inr (r_Sums_termRowsR, a))), some (.inr (.inr (r_Sums_sumRowsR, b))), some (.inl f), some (.inl W), some (.inl u), some (.inl c), some (.inl e), some (.inl v), none] [] (srl σ [(r_Sums_spare, X)]) (fun r σ' => ∃ (f_Sums_spare : Int → Int), r = none ∧ σ' = srl σ [(r_Sums_spare, f_Sums_spare)] ∧ (∀ x, 0 ≤ x → x < sS n D (D + 1) → (0 ≤ f_Sums_spare x ∧ f_Sums_spare x < p) ∧ mE p (f_Sums_spare x) ((σ r_Sums_spare) x + f * prd n D (fun x => (σ r_Sums_termRowsR) (a + x)) (fun x => (σ r_Sums_sumRowsR) (b + x)) x)) ∧ (∀ x, ¬ (0 ≤ x ∧ x < sS n D (D + 1)) → f_Sums_spare x = (σ r_Sums_spare) x)) := by
        intro N
        induction N with
        | zero => intro c e v X; intros; omega
        | succ N ih_70 =>
          intro c e v X huu hc he hv hX hN_70
          have hcb := @sR_lt p (f * (fun x => σ r_Sums_termRowsR (a + x)) u) hO.2.2.2
          rw [← hc] at hcb
          have huw := sL_w hO huu.1 huu.2
          have heb : e ≤ sS n D (D + 1) := by rw [he]; exact sS_mono hO.1.1 (by omega)
          refine wp_run 1 (pc' := 72) (ls' := [some (.inr (.inr (r_Shape1, 0))), some (.inr (.inr (r_Sums_spare, 0))), some (.inr (.inr (r_Sums_termRowsR, a))), some (.inr (.inr (r_Sums_sumRowsR, b))), some (.inl f), some (.inl W), some (.inl u), some (.inl c), some (.inl e), some (.inl v), none]) (st' := [.inl c]) (σ' := srl σ [(r_Sums_spare, X)]) rfl ?_
          refine wp_if_eq rfl (by omega) (fun h_1 => ?_) (fun h_1 => ?_)
          · show en_wp k_X5_addProduct 141 [some (.inr (.inr (r_Shape1, 0))), some (.inr (.inr (r_Sums_spare, 0))), some (.inr (.inr (r_Sums_termRowsR, a))), some (.inr (.inr (r_Sums_sumRowsR, b))), some (.inl f), some (.inl W), some (.inl u), some (.inl c), some (.inl e), some (.inl v), none] [] (srl σ [(r_Sums_spare, X)]) _
            refine wp_run 2 (pc' := 24) (ls' := [some (.inr (.inr (r_Shape1, 0))), some (.inr (.inr (r_Sums_spare, 0))), some (.inr (.inr (r_Sums_termRowsR, a))), some (.inr (.inr (r_Sums_sumRowsR, b))), some (.inl f), some (.inl W), some (.inl (u + 1)), some (.inl c), some (.inl e), some (.inl v), none]) (st' := []) (σ' := srl σ [(r_Sums_spare, X)]) rfl ?_
            refine wp_sub (l := [some (.inr (.inr (r_Shape1, 0))), some (.inr (.inr (r_Sums_spare, 0))), some (.inr (.inr (r_Sums_termRowsR, a))), some (.inr (.inr (r_Sums_sumRowsR, b))), some (.inl f), some (.inl W), some (.inl (u + 1)), none, none, none, none]) (And.intro rfl (And.intro rfl (And.intro rfl (And.intro rfl (And.intro rfl (And.intro rfl (And.intro rfl trivial))))))) ?_
            exact ih_24 W (u + 1) X hW (by omega) (ap_row hX huu.1 (by omega) (fun w _ _ x => ap_z2 (by rw [← hc]; assumption))) (by omega)
          · show en_wp k_X5_addProduct 75 [some (.inr (.inr (r_Shape1, 0))), some (.inr (.inr (r_Sums_spare, 0))), some (.inr (.inr (r_Sums_termRowsR, a))), some (.inr (.inr (r_Sums_sumRowsR, b))), some (.inl f), some (.inl W), some (.inl u), some (.inl c), some (.inl e), some (.inl v), none] [] (srl σ [(r_Sums_spare, X)]) _
            refine wp_run 2 (pc' := 79) (ls' := [some (.inr (.inr (r_Shape1, 0))), some (.inr (.inr (r_Sums_spare, 0))), some (.inr (.inr (r_Sums_termRowsR, a))), some (.inr (.inr (r_Sums_sumRowsR, b))), some (.inl f), some (.inl W), some (.inl u), some (.inl c), some (.inl e), some (.inl v), none]) (st' := [.inl e, .inl v]) (σ' := srl σ [(r_Sums_spare, X)]) rfl ?_
            refine wp_ic_ge rfl (by omega) (by omega) (fun h_2 => ?_) (fun h_2 => ?_)
            · show en_wp k_X5_addProduct 141 [some (.inr (.inr (r_Shape1, 0))), some (.inr (.inr (r_Sums_spare, 0))), some (.inr (.inr (r_Sums_termRowsR, a))), some (.inr (.inr (r_Sums_sumRowsR, b))), some (.inl f), some (.inl W), some (.inl u), some (.inl c), some (.inl e), some (.inl v), none] [] (srl σ [(r_Sums_spare, X)]) _
              refine wp_run 2 (pc' := 24) (ls' := [some (.inr (.inr (r_Shape1, 0))), some (.inr (.inr (r_Sums_spare, 0))), some (.inr (.inr (r_Sums_termRowsR, a))), some (.inr (.inr (r_Sums_sumRowsR, b))), some (.inl f), some (.inl W), some (.inl (u + 1)), some (.inl c), some (.inl e), some (.inl v), none]) (st' := []) (σ' := srl σ [(r_Sums_spare, X)]) rfl ?_
              refine wp_sub (l := [some (.inr (.inr (r_Shape1, 0))), some (.inr (.inr (r_Sums_spare, 0))), some (.inr (.inr (r_Sums_termRowsR, a))), some (.inr (.inr (r_Sums_sumRowsR, b))), some (.inl f), some (.inl W), some (.inl (u + 1)), none, none, none, none]) (And.intro rfl (And.intro rfl (And.intro rfl (And.intro rfl (And.intro rfl (And.intro rfl (And.intro rfl trivial))))))) ?_
              exact ih_24 W (u + 1) X hW (by omega) (ap_row hX huu.1 (by omega) (fun w h6 h7 x => ap_z3 (by have h5 := (sL_lt hO (show 0 ≤ w by omega) h7 (show 0 ≤ D - sL n D u by omega)).mpr; rcases Int.lt_or_le D (sL n D u + sL n D w) with h4 | h4; exact h4; have h3 := h5 (by omega); omega))) (by omega)
            · show en_wp k_X5_addProduct 82 [some (.inr (.inr (r_Shape1, 0))), some (.inr (.inr (r_Sums_spare, 0))), some (.inr (.inr (r_Sums_termRowsR, a))), some (.inr (.inr (r_Sums_sumRowsR, b))), some (.inl f), some (.inl W), some (.inl u), some (.inl c), some (.inl e), some (.inl v), none] [] (srl σ [(r_Sums_spare, X)]) _
              refine wp_run 2 (pc' := 85) (ls' := [some (.inr (.inr (r_Shape1, 0))), some (.inr (.inr (r_Sums_spare, 0))), some (.inr (.inr (r_Sums_termRowsR, a))), some (.inr (.inr (r_Sums_sumRowsR, b))), some (.inl f), some (.inl W), some (.inl u), some (.inl c), some (.inl e), some (.inl v), none]) (st' := [.inl v, .inr (.inr (r_Sums_sumRowsR, b))]) (σ' := srl σ [(r_Sums_spare, X)]) rfl ?_
              have hv364 : v < 364 := by omega
              refine wp_iald rfl rfl (by omega) ?_
              show en_wp k_X5_addProduct 86 [some (.inr (.inr (r_Shape1, 0))), some (.inr (.inr (r_Sums_spare, 0))), some (.inr (.inr (r_Sums_termRowsR, a))), some (.inr (.inr (r_Sums_sumRowsR, b))), some (.inl f), some (.inl W), some (.inl u), some (.inl c), some (.inl e), some (.inl v), none] [.inl (σ r_Sums_sumRowsR (b + v))] (srl σ [(r_Sums_spare, X)]) _
              have hxb := gb (b + v)
              refine wp_if_eq rfl (by omega) (fun h_3 => ?_) (fun h_3 => ?_)
              · show en_wp k_X5_addProduct 100 [some (.inr (.inr (r_Shape1, 0))), some (.inr (.inr (r_Sums_spare, 0))), some (.inr (.inr (r_Sums_termRowsR, a))), some (.inr (.inr (r_Sums_sumRowsR, b))), some (.inl f), some (.inl W), some (.inl u), some (.inl c), some (.inl e), some (.inl v), none] [] (srl σ [(r_Sums_spare, X)]) _
                refine wp_run 6 (pc' := 70) (ls' := [some (.inr (.inr (r_Shape1, 0))), some (.inr (.inr (r_Sums_spare, 0))), some (.inr (.inr (r_Sums_termRowsR, a))), some (.inr (.inr (r_Sums_sumRowsR, b))), some (.inl f), some (.inl W), some (.inl u), some (.inl c), some (.inl e), some (.inl (v + 1)), some (.inl (-1))]) (st' := []) (σ' := srl σ [(r_Sums_spare, X)]) rfl ?_
                refine wp_sub (l := [some (.inr (.inr (r_Shape1, 0))), some (.inr (.inr (r_Sums_spare, 0))), some (.inr (.inr (r_Sums_termRowsR, a))), some (.inr (.inr (r_Sums_sumRowsR, b))), some (.inl f), some (.inl W), some (.inl u), some (.inl c), some (.inl e), some (.inl (v + 1)), none]) (And.intro rfl (And.intro rfl (And.intro rfl (And.intro rfl (And.intro rfl (And.intro rfl (And.intro rfl (And.intro rfl (And.intro rfl (And.intro rfl trivial)))))))))) ?_
                exact ih_70 c e (v + 1) X (by omega) hc he (by omega) (ap_skip hX hv.1 (fun x => ap_z1 (by assumption))) (by omega)
              · show en_wp k_X5_addProduct 89 [some (.inr (.inr (r_Shape1, 0))), some (.inr (.inr (r_Sums_spare, 0))), some (.inr (.inr (r_Sums_termRowsR, a))), some (.inr (.inr (r_Sums_sumRowsR, b))), some (.inl f), some (.inl W), some (.inl u), some (.inl c), some (.inl e), some (.inl v), none] [] (srl σ [(r_Sums_spare, X)]) _
                refine wp_run 3 (pc' := 94) (ls' := [some (.inr (.inr (r_Shape1, 0))), some (.inr (.inr (r_Sums_spare, 0))), some (.inr (.inr (r_Sums_termRowsR, a))), some (.inr (.inr (r_Sums_sumRowsR, b))), some (.inl f), some (.inl W), some (.inl u), some (.inl c), some (.inl e), some (.inl v), none]) (st' := [.inl v, .inl u, .inr (.inr (r_Shape1, 0))]) (σ' := srl σ [(r_Sums_spare, X)]) rfl ?_
                have hvA : 0 ≤ v ∧ v < sS n D (D + 1) := by omega
                have hvL : sL n D v ≤ D - sL n D u := (sL_lt hO hvA.1 hvA.2 (by omega)).mp (by omega)
                refine wp_fnv (v := .inl (sS n D (sL n D u + sL n D v) + (u - sS n D (sL n D u)) * sW n D (sL n D v) + v - sS n D (sL n D v))) rfl rfl rfl rfl (ct_X5_indexOfBoth_Shape1 (srl σ [(r_Sums_spare, X)]) n D p u v hI (by omega) (by omega) (by omega)) ?_
                show en_wp k_X5_addProduct 97 [some (.inr (.inr (r_Shape1, 0))), some (.inr (.inr (r_Sums_spare, 0))), some (.inr (.inr (r_Sums_termRowsR, a))), some (.inr (.inr (r_Sums_sumRowsR, b))), some (.inl f), some (.inl W), some (.inl u), some (.inl c), some (.inl e), some (.inl v), none] [.inl (sS n D (sL n D u + sL n D v) + (u - sS n D (sL n D u)) * sW n D (sL n D v) + v - sS n D (sL n D v))] (srl σ [(r_Sums_spare, X)]) _
                refine wp_run 3 (pc' := 105) (ls' := [some (.inr (.inr (r_Shape1, 0))), some (.inr (.inr (r_Sums_spare, 0))), some (.inr (.inr (r_Sums_termRowsR, a))), some (.inr (.inr (r_Sums_sumRowsR, b))), some (.inl f), some (.inl W), some (.inl u), some (.inl c), some (.inl e), some (.inl v), some (.inl (sS n D (sL n D u + sL n D v) + (u - sS n D (sL n D u)) * sW n D (sL n D v) + v - sS n D (sL n D v)))]) (st' := [.inl (sS n D (sL n D u + sL n D v) + (u - sS n D (sL n D u)) * sW n D (sL n D v) + v - sS n D (sL n D v))]) (σ' := srl σ [(r_Sums_spare, X)]) rfl ?_
                have hin := bAt_in hO huu hvA (by omega)
                unfold bAt at hin
                refine wp_if_lt rfl (by omega) (fun h_4 => ?_) (fun h_4 => ?_)
                · exfalso; omega
                · show en_wp k_X5_addProduct 108 [some (.inr (.inr (r_Shape1, 0))), some (.inr (.inr (r_Sums_spare, 0))), some (.inr (.inr (r_Sums_termRowsR, a))), some (.inr (.inr (r_Sums_sumRowsR, b))), some (.inl f), some (.inl W), some (.inl u), some (.inl c), some (.inl e), some (.inl v), some (.inl (sS n D (sL n D u + sL n D v) + (u - sS n D (sL n D u)) * sW n D (sL n D v) + v - sS n D (sL n D v)))] [] (srl σ [(r_Sums_spare, X)]) _
                  refine wp_run 2 (pc' := 112) (ls' := [some (.inr (.inr (r_Shape1, 0))), some (.inr (.inr (r_Sums_spare, 0))), some (.inr (.inr (r_Sums_termRowsR, a))), some (.inr (.inr (r_Sums_sumRowsR, b))), some (.inl f), some (.inl W), some (.inl u), some (.inl c), some (.inl e), some (.inl v), some (.inl (sS n D (sL n D u + sL n D v) + (u - sS n D (sL n D u)) * sW n D (sL n D v) + v - sS n D (sL n D v)))]) (st' := [.inl W, .inl (sS n D (sL n D u + sL n D v) + (u - sS n D (sL n D u)) * sW n D (sL n D v) + v - sS n D (sL n D v))]) (σ' := srl σ [(r_Sums_spare, X)]) rfl ?_
                  refine wp_ic_ge rfl (by omega) (by omega) (fun h_5 => ?_) (fun h_5 => ?_)
                  · exfalso; omega
                  · show en_wp k_X5_addProduct 115 [some (.inr (.inr (r_Shape1, 0))), some (.inr (.inr (r_Sums_spare, 0))), some (.inr (.inr (r_Sums_termRowsR, a))), some (.inr (.inr (r_Sums_sumRowsR, b))), some (.inl f), some (.inl W), some (.inl u), some (.inl c), some (.inl e), some (.inl v), some (.inl (sS n D (sL n D u + sL n D v) + (u - sS n D (sL n D u)) * sW n D (sL n D v) + v - sS n D (sL n D v)))] [] (srl σ [(r_Sums_spare, X)]) _
                    refine wp_run 5 (pc' := 122) (ls' := [some (.inr (.inr (r_Shape1, 0))), some (.inr (.inr (r_Sums_spare, 0))), some (.inr (.inr (r_Sums_termRowsR, a))), some (.inr (.inr (r_Sums_sumRowsR, b))), some (.inl f), some (.inl W), some (.inl u), some (.inl c), some (.inl e), some (.inl v), some (.inl (sS n D (sL n D u + sL n D v) + (u - sS n D (sL n D u)) * sW n D (sL n D v) + v - sS n D (sL n D v)))]) (st' := [.inl (sS n D (sL n D u + sL n D v) + (u - sS n D (sL n D u)) * sW n D (sL n D v) + v - sS n D (sL n D v)), .inr (.inr (r_Sums_spare, 0)), .inr (.inr (r_Shape1, 0)), .inl (sS n D (sL n D u + sL n D v) + (u - sS n D (sL n D u)) * sW n D (sL n D v) + v - sS n D (sL n D v)), .inr (.inr (r_Sums_spare, 0))]) (σ' := srl σ [(r_Sums_spare, X)]) rfl ?_
                    have hxa := (hX.1 _ hin.1 hin.2.1).1
                    have hxb := gb (b + v)
                    have hm1 := m97 (a := c) (b := σ r_Sums_sumRowsR (b + v)) (by omega) hxb
                    refine wp_iald0 rfl rfl (by omega) ?_
                    show en_wp k_X5_addProduct 123 [some (.inr (.inr (r_Shape1, 0))), some (.inr (.inr (r_Sums_spare, 0))), some (.inr (.inr (r_Sums_termRowsR, a))), some (.inr (.inr (r_Sums_sumRowsR, b))), some (.inl f), some (.inl W), some (.inl u), some (.inl c), some (.inl e), some (.inl v), some (.inl (sS n D (sL n D u + sL n D v) + (u - sS n D (sL n D u)) * sW n D (sL n D v) + v - sS n D (sL n D v)))] [.inl (X (sS n D (sL n D u + sL n D v) + (u - sS n D (sL n D u)) * sW n D (sL n D v) + v - sS n D (sL n D v))), .inr (.inr (r_Shape1, 0)), .inl (sS n D (sL n D u + sL n D v) + (u - sS n D (sL n D u)) * sW n D (sL n D v) + v - sS n D (sL n D v)), .inr (.inr (r_Sums_spare, 0))] (srl σ [(r_Sums_spare, X)]) _
                    refine wp_run 3 (pc' := 128) (ls' := [some (.inr (.inr (r_Shape1, 0))), some (.inr (.inr (r_Sums_spare, 0))), some (.inr (.inr (r_Sums_termRowsR, a))), some (.inr (.inr (r_Sums_sumRowsR, b))), some (.inl f), some (.inl W), some (.inl u), some (.inl c), some (.inl e), some (.inl v), some (.inl (sS n D (sL n D u + sL n D v) + (u - sS n D (sL n D u)) * sW n D (sL n D v) + v - sS n D (sL n D v)))]) (st' := [.inl v, .inr (.inr (r_Sums_sumRowsR, b)), .inl c, .inl (X (sS n D (sL n D u + sL n D v) + (u - sS n D (sL n D u)) * sW n D (sL n D v) + v - sS n D (sL n D v))), .inr (.inr (r_Shape1, 0)), .inl (sS n D (sL n D u + sL n D v) + (u - sS n D (sL n D u)) * sW n D (sL n D v) + v - sS n D (sL n D v)), .inr (.inr (r_Sums_spare, 0))]) (σ' := srl σ [(r_Sums_spare, X)]) rfl ?_
                    refine wp_iald rfl rfl (by omega) ?_
                    show en_wp k_X5_addProduct 129 [some (.inr (.inr (r_Shape1, 0))), some (.inr (.inr (r_Sums_spare, 0))), some (.inr (.inr (r_Sums_termRowsR, a))), some (.inr (.inr (r_Sums_sumRowsR, b))), some (.inl f), some (.inl W), some (.inl u), some (.inl c), some (.inl e), some (.inl v), some (.inl (sS n D (sL n D u + sL n D v) + (u - sS n D (sL n D u)) * sW n D (sL n D v) + v - sS n D (sL n D v)))] [.inl (σ r_Sums_sumRowsR (b + v)), .inl c, .inl (X (sS n D (sL n D u + sL n D v) + (u - sS n D (sL n D u)) * sW n D (sL n D v) + v - sS n D (sL n D v))), .inr (.inr (r_Shape1, 0)), .inl (sS n D (sL n D u + sL n D v) + (u - sS n D (sL n D u)) * sW n D (sL n D v) + v - sS n D (sL n D v)), .inr (.inr (r_Sums_spare, 0))] (srl σ [(r_Sums_spare, X)]) _
                    refine wp_run 2 (pc' := 131) (ls' := [some (.inr (.inr (r_Shape1, 0))), some (.inr (.inr (r_Sums_spare, 0))), some (.inr (.inr (r_Sums_termRowsR, a))), some (.inr (.inr (r_Sums_sumRowsR, b))), some (.inl f), some (.inl W), some (.inl u), some (.inl c), some (.inl e), some (.inl v), some (.inl (sS n D (sL n D u + sL n D v) + (u - sS n D (sL n D u)) * sW n D (sL n D v) + v - sS n D (sL n D v)))]) (st' := [.inl ((X (sS n D (sL n D u + sL n D v) + (u - sS n D (sL n D u)) * sW n D (sL n D v) + v - sS n D (sL n D v))) + (c * (σ r_Sums_sumRowsR (b + v)))), .inr (.inr (r_Shape1, 0)), .inl (sS n D (sL n D u + sL n D v) + (u - sS n D (sL n D u)) * sW n D (sL n D v) + v - sS n D (sL n D v)), .inr (.inr (r_Sums_spare, 0))]) (σ' := srl σ [(r_Sums_spare, X)]) rfl ?_
                    refine wp_fnv (v := .inl (((X (sS n D (sL n D u + sL n D v) + (u - sS n D (sL n D u)) * sW n D (sL n D v) + v - sS n D (sL n D v))) + (c * (σ r_Sums_sumRowsR (b + v)))) % p)) rfl rfl rfl rfl (ct_X5_rest_Shape1 (srl σ [(r_Sums_spare, X)]) n D p ((X (sS n D (sL n D u + sL n D v) + (u - sS n D (sL n D u)) * sW n D (sL n D v) + v - sS n D (sL n D v))) + (c * (σ r_Sums_sumRowsR (b + v)))) hI (by omega)) ?_
                    show en_wp k_X5_addProduct 134 [some (.inr (.inr (r_Shape1, 0))), some (.inr (.inr (r_Sums_spare, 0))), some (.inr (.inr (r_Sums_termRowsR, a))), some (.inr (.inr (r_Sums_sumRowsR, b))), some (.inl f), some (.inl W), some (.inl u), some (.inl c), some (.inl e), some (.inl v), some (.inl (sS n D (sL n D u + sL n D v) + (u - sS n D (sL n D u)) * sW n D (sL n D v) + v - sS n D (sL n D v)))] [.inl (((X (sS n D (sL n D u + sL n D v) + (u - sS n D (sL n D u)) * sW n D (sL n D v) + v - sS n D (sL n D v))) + (c * (σ r_Sums_sumRowsR (b + v)))) % p), .inl (sS n D (sL n D u + sL n D v) + (u - sS n D (sL n D u)) * sW n D (sL n D v) + v - sS n D (sL n D v)), .inr (.inr (r_Sums_spare, 0))] (srl σ [(r_Sums_spare, X)]) _
                    have q_6 : 0 ≤ ((X (sS n D (sL n D u + sL n D v) + (u - sS n D (sL n D u)) * sW n D (sL n D v) + v - sS n D (sL n D v))) + (c * (σ r_Sums_sumRowsR (b + v)))) % p ∧ ((X (sS n D (sL n D u + sL n D v) + (u - sS n D (sL n D u)) * sW n D (sL n D v) + v - sS n D (sL n D v))) + (c * (σ r_Sums_sumRowsR (b + v)))) % p < p := sR_lt hO.2.2.2
                    refine wp_iast0 rfl rfl (by omega) (wp_wr (l2 := [(r_Sums_spare, (up X (sS n D (sL n D u + sL n D v) + (u - sS n D (sL n D u)) * sW n D (sL n D v) + v - sS n D (sL n D v)) (((X (sS n D (sL n D u + sL n D v) + (u - sS n D (sL n D u)) * sW n D (sL n D v) + v - sS n D (sL n D v))) + (c * (σ r_Sums_sumRowsR (b + v)))) % p)))]) rfl ?_)
                    show en_wp k_X5_addProduct 135 [some (.inr (.inr (r_Shape1, 0))), some (.inr (.inr (r_Sums_spare, 0))), some (.inr (.inr (r_Sums_termRowsR, a))), some (.inr (.inr (r_Sums_sumRowsR, b))), some (.inl f), some (.inl W), some (.inl u), some (.inl c), some (.inl e), some (.inl v), some (.inl (sS n D (sL n D u + sL n D v) + (u - sS n D (sL n D u)) * sW n D (sL n D v) + v - sS n D (sL n D v)))] [] (srl σ [(r_Sums_spare, (up X (sS n D (sL n D u + sL n D v) + (u - sS n D (sL n D u)) * sW n D (sL n D v) + v - sS n D (sL n D v)) (((X (sS n D (sL n D u + sL n D v) + (u - sS n D (sL n D u)) * sW n D (sL n D v) + v - sS n D (sL n D v))) + (c * (σ r_Sums_sumRowsR (b + v)))) % p)))]) _
                    refine wp_run 2 (pc' := 70) (ls' := [some (.inr (.inr (r_Shape1, 0))), some (.inr (.inr (r_Sums_spare, 0))), some (.inr (.inr (r_Sums_termRowsR, a))), some (.inr (.inr (r_Sums_sumRowsR, b))), some (.inl f), some (.inl W), some (.inl u), some (.inl c), some (.inl e), some (.inl (v + 1)), some (.inl (sS n D (sL n D u + sL n D v) + (u - sS n D (sL n D u)) * sW n D (sL n D v) + v - sS n D (sL n D v)))]) (st' := []) (σ' := srl σ [(r_Sums_spare, (up X (sS n D (sL n D u + sL n D v) + (u - sS n D (sL n D u)) * sW n D (sL n D v) + v - sS n D (sL n D v)) (((X (sS n D (sL n D u + sL n D v) + (u - sS n D (sL n D u)) * sW n D (sL n D v) + v - sS n D (sL n D v))) + (c * (σ r_Sums_sumRowsR (b + v)))) % p)))]) rfl ?_
                    refine wp_sub (l := [some (.inr (.inr (r_Shape1, 0))), some (.inr (.inr (r_Sums_spare, 0))), some (.inr (.inr (r_Sums_termRowsR, a))), some (.inr (.inr (r_Sums_sumRowsR, b))), some (.inl f), some (.inl W), some (.inl u), some (.inl c), some (.inl e), some (.inl (v + 1)), none]) (And.intro rfl (And.intro rfl (And.intro rfl (And.intro rfl (And.intro rfl (And.intro rfl (And.intro rfl (And.intro rfl (And.intro rfl (And.intro rfl trivial)))))))))) ?_
                    exact ih_70 c e (v + 1) (up X (sS n D (sL n D u + sL n D v) + (u - sS n D (sL n D u)) * sW n D (sL n D v) + v - sS n D (sL n D v)) (((X (sS n D (sL n D u + sL n D v) + (u - sS n D (sL n D u)) * sW n D (sL n D v) + v - sS n D (sL n D v))) + (c * (σ r_Sums_sumRowsR (b + v)))) % p)) (by omega) hc he (by omega) (ap_hit hO (by omega) hX huu hvA (by omega) (by rw [hc]; exact mE_emod p _)) (by omega)
      refine wp_run 2 (pc' := 28) (ls' := [some (.inr (.inr (r_Shape1, 0))), some (.inr (.inr (r_Sums_spare, 0))), some (.inr (.inr (r_Sums_termRowsR, a))), some (.inr (.inr (r_Sums_sumRowsR, b))), some (.inl f), some (.inl W), some (.inl u), none, none, none, none]) (st' := [.inl W, .inl u]) (σ' := srl σ [(r_Sums_spare, X)]) rfl ?_
      refine wp_ic_ge rfl (by omega) (by omega) (fun h_7 => ?_) (fun h_7 => ?_)
      · show en_wp k_X5_addProduct 147 [some (.inr (.inr (r_Shape1, 0))), some (.inr (.inr (r_Sums_spare, 0))), some (.inr (.inr (r_Sums_termRowsR, a))), some (.inr (.inr (r_Sums_sumRowsR, b))), some (.inl f), some (.inl W), some (.inl u), none, none, none, none] [] (srl σ [(r_Sums_spare, X)]) _
        exact wp_vret rfl ⟨X, rfl, srl_eq (l' := [(r_Sums_spare, X)]) (And.intro rfl trivial) (And.intro rfl trivial), (ap_fin hX (by omega))⟩
      · show en_wp k_X5_addProduct 31 [some (.inr (.inr (r_Shape1, 0))), some (.inr (.inr (r_Sums_spare, 0))), some (.inr (.inr (r_Sums_termRowsR, a))), some (.inr (.inr (r_Sums_sumRowsR, b))), some (.inl f), some (.inl W), some (.inl u), none, none, none, none] [] (srl σ [(r_Sums_spare, X)]) _
        refine wp_run 4 (pc' := 37) (ls' := [some (.inr (.inr (r_Shape1, 0))), some (.inr (.inr (r_Sums_spare, 0))), some (.inr (.inr (r_Sums_termRowsR, a))), some (.inr (.inr (r_Sums_sumRowsR, b))), some (.inl f), some (.inl W), some (.inl u), none, none, none, none]) (st' := [.inl u, .inr (.inr (r_Sums_termRowsR, a)), .inl f, .inr (.inr (r_Shape1, 0))]) (σ' := srl σ [(r_Sums_spare, X)]) rfl ?_
        have hx1 := ga (a + u)
        have hfa : -97 ≤ f * σ r_Sums_termRowsR (a + u) ∧ f * σ r_Sums_termRowsR (a + u) ≤ 97 := by rcases hf with h | h <;> rw [h] <;> omega
        refine wp_iald rfl rfl (by omega) ?_
        show en_wp k_X5_addProduct 38 [some (.inr (.inr (r_Shape1, 0))), some (.inr (.inr (r_Sums_spare, 0))), some (.inr (.inr (r_Sums_termRowsR, a))), some (.inr (.inr (r_Sums_sumRowsR, b))), some (.inl f), some (.inl W), some (.inl u), none, none, none, none] [.inl (σ r_Sums_termRowsR (a + u)), .inl f, .inr (.inr (r_Shape1, 0))] (srl σ [(r_Sums_spare, X)]) _
        refine wp_run 1 (pc' := 39) (ls' := [some (.inr (.inr (r_Shape1, 0))), some (.inr (.inr (r_Sums_spare, 0))), some (.inr (.inr (r_Sums_termRowsR, a))), some (.inr (.inr (r_Sums_sumRowsR, b))), some (.inl f), some (.inl W), some (.inl u), none, none, none, none]) (st' := [.inl (f * (σ r_Sums_termRowsR (a + u))), .inr (.inr (r_Shape1, 0))]) (σ' := srl σ [(r_Sums_spare, X)]) rfl ?_
        refine wp_fnv (v := .inl ((f * (σ r_Sums_termRowsR (a + u))) % p)) rfl rfl rfl rfl (ct_X5_rest_Shape1 (srl σ [(r_Sums_spare, X)]) n D p (f * (σ r_Sums_termRowsR (a + u))) hI (by omega)) ?_
        show en_wp k_X5_addProduct 42 [some (.inr (.inr (r_Shape1, 0))), some (.inr (.inr (r_Sums_spare, 0))), some (.inr (.inr (r_Sums_termRowsR, a))), some (.inr (.inr (r_Sums_sumRowsR, b))), some (.inl f), some (.inl W), some (.inl u), none, none, none, none] [.inl ((f * (σ r_Sums_termRowsR (a + u))) % p)] (srl σ [(r_Sums_spare, X)]) _
        have q_8 : 0 ≤ (f * (σ r_Sums_termRowsR (a + u))) % p ∧ (f * (σ r_Sums_termRowsR (a + u))) % p < p := sR_lt hO.2.2.2
        refine wp_run 7 (pc' := 55) (ls' := [some (.inr (.inr (r_Shape1, 0))), some (.inr (.inr (r_Sums_spare, 0))), some (.inr (.inr (r_Sums_termRowsR, a))), some (.inr (.inr (r_Sums_sumRowsR, b))), some (.inl f), some (.inl W), some (.inl u), some (.inl ((f * (σ r_Sums_termRowsR (a + u))) % p)), none, none, none]) (st' := [.inl u, .inr (.inr (r_Shape1_lengths, 0)), .inl (σ r_Shape1_degree 0), .inr (.inr (r_Shape1, 0))]) (σ' := srl σ [(r_Sums_spare, X)]) rfl ?_
        have huw := sL_w hO hu.1 (by omega)
        refine wp_iald0 rfl rfl (by omega) ?_
        show en_wp k_X5_addProduct 56 [some (.inr (.inr (r_Shape1, 0))), some (.inr (.inr (r_Sums_spare, 0))), some (.inr (.inr (r_Sums_termRowsR, a))), some (.inr (.inr (r_Sums_sumRowsR, b))), some (.inl f), some (.inl W), some (.inl u), some (.inl ((f * (σ r_Sums_termRowsR (a + u))) % p)), none, none, none] [.inl (σ r_Shape1_lengths u), .inl (σ r_Shape1_degree 0), .inr (.inr (r_Shape1, 0))] (srl σ [(r_Sums_spare, X)]) _
        refine wp_run 1 (pc' := 57) (ls' := [some (.inr (.inr (r_Shape1, 0))), some (.inr (.inr (r_Sums_spare, 0))), some (.inr (.inr (r_Sums_termRowsR, a))), some (.inr (.inr (r_Sums_sumRowsR, b))), some (.inl f), some (.inl W), some (.inl u), some (.inl ((f * (σ r_Sums_termRowsR (a + u))) % p)), none, none, none]) (st' := [.inl ((σ r_Shape1_degree 0) - (σ r_Shape1_lengths u)), .inr (.inr (r_Shape1, 0))]) (σ' := srl σ [(r_Sums_spare, X)]) rfl ?_
        have hlu := hln u hu.1 (by omega)
        have hme : min (sS n D (((σ r_Shape1_degree 0) - (σ r_Shape1_lengths u)) + 1)) W = sS n D (D - sL n D u + 1) := by rw [hlu, hD, hW]; exact Int.min_eq_left (sS_mono hO.1.1 (by omega))
        refine wp_fnv (v := .inl (sS n D (((σ r_Shape1_degree 0) - (σ r_Shape1_lengths u)) + 1))) rfl rfl rfl rfl (ct_X5_wordsUpTo_Shape1 (srl σ [(r_Sums_spare, X)]) n D p ((σ r_Shape1_degree 0) - (σ r_Shape1_lengths u)) hI (by omega)) ?_
        show en_wp k_X5_addProduct 60 [some (.inr (.inr (r_Shape1, 0))), some (.inr (.inr (r_Sums_spare, 0))), some (.inr (.inr (r_Sums_termRowsR, a))), some (.inr (.inr (r_Sums_sumRowsR, b))), some (.inl f), some (.inl W), some (.inl u), some (.inl ((f * (σ r_Sums_termRowsR (a + u))) % p)), none, none, none] [.inl (sS n D (((σ r_Shape1_degree 0) - (σ r_Shape1_lengths u)) + 1))] (srl σ [(r_Sums_spare, X)]) _
        have q_9 : 0 ≤ sS n D (((σ r_Shape1_degree 0) - (σ r_Shape1_lengths u)) + 1) ∧ sS n D (((σ r_Shape1_degree 0) - (σ r_Shape1_lengths u)) + 1) ≤ 364 := sS_b hO
        refine wp_run 1 (pc' := 62) (ls' := [some (.inr (.inr (r_Shape1, 0))), some (.inr (.inr (r_Sums_spare, 0))), some (.inr (.inr (r_Sums_termRowsR, a))), some (.inr (.inr (r_Sums_sumRowsR, b))), some (.inl f), some (.inl W), some (.inl u), some (.inl ((f * (σ r_Sums_termRowsR (a + u))) % p)), none, none, none]) (st' := [.inl W, .inl (sS n D (((σ r_Shape1_degree 0) - (σ r_Shape1_lengths u)) + 1))]) (σ' := srl σ [(r_Sums_spare, X)]) rfl ?_
        refine wp_min rfl rfl (by omega) (by omega) ?_
        show en_wp k_X5_addProduct 65 [some (.inr (.inr (r_Shape1, 0))), some (.inr (.inr (r_Sums_spare, 0))), some (.inr (.inr (r_Sums_termRowsR, a))), some (.inr (.inr (r_Sums_sumRowsR, b))), some (.inl f), some (.inl W), some (.inl u), some (.inl ((f * (σ r_Sums_termRowsR (a + u))) % p)), none, none, none] [.inl (min (sS n D (((σ r_Shape1_degree 0) - (σ r_Shape1_lengths u)) + 1)) W)] (srl σ [(r_Sums_spare, X)]) _
        refine wp_run 3 (pc' := 70) (ls' := [some (.inr (.inr (r_Shape1, 0))), some (.inr (.inr (r_Sums_spare, 0))), some (.inr (.inr (r_Sums_termRowsR, a))), some (.inr (.inr (r_Sums_sumRowsR, b))), some (.inl f), some (.inl W), some (.inl u), some (.inl ((f * (σ r_Sums_termRowsR (a + u))) % p)), some (.inl (min (sS n D (((σ r_Shape1_degree 0) - (σ r_Shape1_lengths u)) + 1)) W)), some (.inl 0), none]) (st' := []) (σ' := srl σ [(r_Sums_spare, X)]) rfl ?_
        exact L_70 _ ((f * (σ r_Sums_termRowsR (a + u))) % p) (min (sS n D (((σ r_Shape1_degree 0) - (σ r_Shape1_lengths u)) + 1)) W) 0 X (by omega) rfl hme ⟨by omega, by rw [hme]; exact sS_nn hO.1.1⟩ hX (Nat.lt_succ_self _)
  refine wp_run 1 (pc' := 1) (ls' := [some (.inr (.inr (r_Shape1, 0))), some (.inr (.inr (r_Sums_spare, 0))), some (.inr (.inr (r_Sums_termRowsR, a))), some (.inr (.inr (r_Sums_sumRowsR, b))), some (.inl f), none, none, none, none, none, none]) (st' := [.inr (.inr (r_Shape1, 0))]) (σ' := srl σ []) rfl ?_
  refine wp_fnv (v := .inl (sS n D (D + 1))) rfl rfl rfl rfl (ct_X5_wordsInAll_Shape1 σ n D p hI) ?_
  show en_wp k_X5_addProduct 4 [some (.inr (.inr (r_Shape1, 0))), some (.inr (.inr (r_Sums_spare, 0))), some (.inr (.inr (r_Sums_termRowsR, a))), some (.inr (.inr (r_Sums_sumRowsR, b))), some (.inl f), none, none, none, none, none, none] [.inl (sS n D (D + 1))] (srl σ []) _
  have q_10 : 0 ≤ sS n D (D + 1) ∧ sS n D (D + 1) ≤ 364 := sS_b hO
  refine wp_run 6 (pc' := 10) (ls' := [some (.inr (.inr (r_Shape1, 0))), some (.inr (.inr (r_Sums_spare, 0))), some (.inr (.inr (r_Sums_termRowsR, a))), some (.inr (.inr (r_Sums_sumRowsR, b))), some (.inl f), none, none, none, none, none, none]) (st' := [.inl 364, .inl 364, .inl 364, .inl (sS n D (D + 1))]) (σ' := srl σ []) rfl ?_
  refine wp_min rfl rfl (by omega) (by omega) ?_
  show en_wp k_X5_addProduct 13 [some (.inr (.inr (r_Shape1, 0))), some (.inr (.inr (r_Sums_spare, 0))), some (.inr (.inr (r_Sums_termRowsR, a))), some (.inr (.inr (r_Sums_sumRowsR, b))), some (.inl f), none, none, none, none, none, none] [.inl (min 364 364), .inl 364, .inl (sS n D (D + 1))] (srl σ []) _
  refine wp_min rfl rfl (by omega) (by omega) ?_
  show en_wp k_X5_addProduct 16 [some (.inr (.inr (r_Shape1, 0))), some (.inr (.inr (r_Sums_spare, 0))), some (.inr (.inr (r_Sums_termRowsR, a))), some (.inr (.inr (r_Sums_sumRowsR, b))), some (.inl f), none, none, none, none, none, none] [.inl (min 364 (min 364 364)), .inl (sS n D (D + 1))] (srl σ []) _
  refine wp_min rfl rfl (by omega) (by omega) ?_
  show en_wp k_X5_addProduct 19 [some (.inr (.inr (r_Shape1, 0))), some (.inr (.inr (r_Sums_spare, 0))), some (.inr (.inr (r_Sums_termRowsR, a))), some (.inr (.inr (r_Sums_sumRowsR, b))), some (.inl f), none, none, none, none, none, none] [.inl (min (sS n D (D + 1)) (min 364 (min 364 364)))] (srl σ []) _
  refine wp_run 3 (pc' := 24) (ls' := [some (.inr (.inr (r_Shape1, 0))), some (.inr (.inr (r_Sums_spare, 0))), some (.inr (.inr (r_Sums_termRowsR, a))), some (.inr (.inr (r_Sums_sumRowsR, b))), some (.inl f), some (.inl (min (sS n D (D + 1)) (min 364 (min 364 364)))), some (.inl 0), none, none, none, none]) (st' := []) (σ' := srl σ []) rfl ?_
  refine wp_mem (srl_eq (l' := [(r_Sums_spare, (σ r_Sums_spare))]) trivial (And.intro rfl trivial)) ?_
  exact L_24 _ (min (sS n D (D + 1)) (min 364 (min 364 364))) 0 (σ r_Sums_spare) hmn (by omega) (ap_0 gtp) (Nat.lt_succ_self _)
theorem ct_X7_openTerm_s1 (σ : en_m) (n : Int) (D : Int) (p : Int) (d : Int) (s : Int) (hI : cS1 σ n D p) (hs : (σ r_Sums_shape) 0 = 1) (hd : 0 ≤ d ∧ d ≤ 4) (hg : s = 1 ∨ s = -1) : en_ct z_X7_openTerm [.inr (.inr (r_Sums, 0)), .inl d, .inl s] σ (fun r σ' => r = none ∧ σ' = srl σ [(r_Sums_termRowsR, (uR p d s (σ r_Sums_termRowsR)))]) := by
  show en_wp k_X7_openTerm 0 [some (.inr (.inr (r_Sums, 0))), some (.inl d), some (.inl s)] [] (srl σ []) (fun r σ' => r = none ∧ σ' = srl σ [(r_Sums_termRowsR, (uR p d s (σ r_Sums_termRowsR)))])
  have hI2 := hI
  obtain ⟨hO, hn, hD, hp, hm, hst, hln⟩ := hI2
  obtain ⟨⟨hO1, hO2⟩, ⟨hO3, hO4⟩, hO5, hO6, hO7, hO8⟩ := id hO
  have hAb := sS_b (k := D + 1) hO
  refine wp_run 3 (pc' := 5) (ls' := [some (.inr (.inr (r_Sums, 0))), some (.inl d), some (.inl s)]) (st' := [.inl d, .inr (.inr (r_Sums_termRows, 0))]) (σ' := srl σ []) rfl ?_
  refine wp_aald (m := 364) rfl rfl rfl (by omega) ?_
  show en_wp k_X7_openTerm 6 [some (.inr (.inr (r_Sums, 0))), some (.inl d), some (.inl s)] [.inr (.inr (r_Sums_termRowsR, (d * 364)))] (srl σ []) _
  refine wp_run 1 (pc' := 7) (ls' := [some (.inr (.inr (r_Sums, 0))), some (.inl d), some (.inl s)]) (st' := [.inl 0, .inr (.inr (r_Sums_termRowsR, (d * 364)))]) (σ' := srl σ []) rfl ?_
  refine wp_calls rfl rfl rfl rfl rfl (ct_J7_fill_53178_Sums_termRowsR σ (d * 364) 0) ?_
  rintro _ _ ⟨rfl, rfl⟩
  show en_wp k_X7_openTerm 10 [some (.inr (.inr (r_Sums, 0))), some (.inl d), some (.inl s)] [] (srl σ [(r_Sums_termRowsR, (seg (σ r_Sums_termRowsR) (d * 364) 364 (fun _ => 0)))]) _
  refine wp_run 3 (pc' := 15) (ls' := [some (.inr (.inr (r_Sums, 0))), some (.inl d), some (.inl s)]) (st' := [.inl d, .inr (.inr (r_Sums_termRows, 0))]) (σ' := srl σ [(r_Sums_termRowsR, (seg (σ r_Sums_termRowsR) (d * 364) 364 (fun _ => 0)))]) rfl ?_
  refine wp_aald (m := 364) rfl rfl rfl (by omega) ?_
  show en_wp k_X7_openTerm 16 [some (.inr (.inr (r_Sums, 0))), some (.inl d), some (.inl s)] [.inr (.inr (r_Sums_termRowsR, (d * 364)))] (srl σ [(r_Sums_termRowsR, (seg (σ r_Sums_termRowsR) (d * 364) 364 (fun _ => 0)))]) _
  refine wp_run 2 (pc' := 18) (ls' := [some (.inr (.inr (r_Sums, 0))), some (.inl d), some (.inl s)]) (st' := [.inr (.inr (r_Sums, 0)), .inl 0, .inr (.inr (r_Sums_termRowsR, (d * 364)))]) (σ' := srl σ [(r_Sums_termRowsR, (seg (σ r_Sums_termRowsR) (d * 364) 364 (fun _ => 0)))]) rfl ?_
  refine wp_get5 1 rfl rfl rfl rfl hs (by decide) ?_
  show en_wp k_X7_openTerm 21 [some (.inr (.inr (r_Sums, 0))), some (.inl d), some (.inl s)] [.inr (.inr (r_Shape1, 0)), .inl 0, .inr (.inr (r_Sums_termRowsR, (d * 364)))] (srl σ [(r_Sums_termRowsR, (seg (σ r_Sums_termRowsR) (d * 364) 364 (fun _ => 0)))]) _
  refine wp_run 1 (pc' := 22) (ls' := [some (.inr (.inr (r_Sums, 0))), some (.inl d), some (.inl s)]) (st' := [.inl s, .inr (.inr (r_Shape1, 0)), .inl 0, .inr (.inr (r_Sums_termRowsR, (d * 364)))]) (σ' := srl σ [(r_Sums_termRowsR, (seg (σ r_Sums_termRowsR) (d * 364) 364 (fun _ => 0)))]) rfl ?_
  refine wp_fnv (v := .inl (s % p)) rfl rfl rfl rfl (ct_X5_rest_Shape1 (srl σ [(r_Sums_termRowsR, (seg (σ r_Sums_termRowsR) (d * 364) 364 (fun _ => 0)))]) n D p s hI (by omega)) ?_
  show en_wp k_X7_openTerm 25 [some (.inr (.inr (r_Sums, 0))), some (.inl d), some (.inl s)] [.inl (s % p), .inl 0, .inr (.inr (r_Sums_termRowsR, (d * 364)))] (srl σ [(r_Sums_termRowsR, (seg (σ r_Sums_termRowsR) (d * 364) 364 (fun _ => 0)))]) _
  have q_1 : 0 ≤ s % p ∧ s % p < p := sR_lt hO.2.2.2
  refine wp_iast rfl rfl (by omega) (wp_wr (l2 := [(r_Sums_termRowsR, (up (seg (σ r_Sums_termRowsR) (d * 364) 364 (fun _ => 0)) ((d * 364) + 0) (s % p)))]) rfl ?_)
  show en_wp k_X7_openTerm 26 [some (.inr (.inr (r_Sums, 0))), some (.inl d), some (.inl s)] [] (srl σ [(r_Sums_termRowsR, (up (seg (σ r_Sums_termRowsR) (d * 364) 364 (fun _ => 0)) ((d * 364) + 0) (s % p)))]) _
  exact wp_vret rfl ⟨rfl, (by rw [Int.add_zero]; exact congrArg (fun z => srl σ [(r_Sums_termRowsR, z)]) (uR_up (uRw_0 p s) (uRw_n p s)))⟩
theorem ct_X7_openSum_s1 (σ : en_m) (n : Int) (D : Int) (p : Int) (d : Int) (hI : cS1 σ n D p) (hs : (σ r_Sums_shape) 0 = 1) (hd : 0 ≤ d ∧ d ≤ 4) : en_ct z_X7_openSum [.inr (.inr (r_Sums, 0)), .inl d] σ (fun r σ' => r = none ∧ σ' = srl σ [(r_Sums_sumRowsR, (seg (σ r_Sums_sumRowsR) (d * 364) 364 (fun _ => 0))), (r_Sums_termRowsR, (uR p d 1 (σ r_Sums_termRowsR)))]) := by
  show en_wp k_X7_openSum 0 [some (.inr (.inr (r_Sums, 0))), some (.inl d)] [] (srl σ []) (fun r σ' => r = none ∧ σ' = srl σ [(r_Sums_sumRowsR, (seg (σ r_Sums_sumRowsR) (d * 364) 364 (fun _ => 0))), (r_Sums_termRowsR, (uR p d 1 (σ r_Sums_termRowsR)))])
  have hI2 := hI
  obtain ⟨hO, hn, hD, hp, hm, hst, hln⟩ := hI2
  obtain ⟨⟨hO1, hO2⟩, ⟨hO3, hO4⟩, hO5, hO6, hO7, hO8⟩ := id hO
  have hAb := sS_b (k := D + 1) hO
  refine wp_run 3 (pc' := 5) (ls' := [some (.inr (.inr (r_Sums, 0))), some (.inl d)]) (st' := [.inl d, .inr (.inr (r_Sums_sumRows, 0))]) (σ' := srl σ []) rfl ?_
  refine wp_aald (m := 364) rfl rfl rfl (by omega) ?_
  show en_wp k_X7_openSum 6 [some (.inr (.inr (r_Sums, 0))), some (.inl d)] [.inr (.inr (r_Sums_sumRowsR, (d * 364)))] (srl σ []) _
  refine wp_run 1 (pc' := 7) (ls' := [some (.inr (.inr (r_Sums, 0))), some (.inl d)]) (st' := [.inl 0, .inr (.inr (r_Sums_sumRowsR, (d * 364)))]) (σ' := srl σ []) rfl ?_
  refine wp_calls rfl rfl rfl rfl rfl (ct_J7_fill_53178_Sums_sumRowsR σ (d * 364) 0) ?_
  rintro _ _ ⟨rfl, rfl⟩
  show en_wp k_X7_openSum 10 [some (.inr (.inr (r_Sums, 0))), some (.inl d)] [] (srl σ [(r_Sums_sumRowsR, (seg (σ r_Sums_sumRowsR) (d * 364) 364 (fun _ => 0)))]) _
  refine wp_run 3 (pc' := 13) (ls' := [some (.inr (.inr (r_Sums, 0))), some (.inl d)]) (st' := [.inl 1, .inl d, .inr (.inr (r_Sums, 0))]) (σ' := srl σ [(r_Sums_sumRowsR, (seg (σ r_Sums_sumRowsR) (d * 364) 364 (fun _ => 0)))]) rfl ?_
  refine wp_callv rfl rfl rfl rfl (ct_X7_openTerm_s1 (srl σ [(r_Sums_sumRowsR, (seg (σ r_Sums_sumRowsR) (d * 364) 364 (fun _ => 0)))]) n D p d 1 hI (by first | exact hs | rfl) (by omega) (by omega)) ?_
  rintro _ _ ⟨rfl, rfl⟩
  refine wp_bk (l2 := [(r_Sums_sumRowsR, (seg (σ r_Sums_sumRowsR) (d * 364) 364 (fun _ => 0))), (r_Sums_termRowsR, (uR p d 1 (σ r_Sums_termRowsR)))]) rfl rfl ?_
  show en_wp k_X7_openSum 16 [some (.inr (.inr (r_Sums, 0))), some (.inl d)] [] (srl σ [(r_Sums_sumRowsR, (seg (σ r_Sums_sumRowsR) (d * 364) 364 (fun _ => 0))), (r_Sums_termRowsR, (uR p d 1 (σ r_Sums_termRowsR)))]) _
  exact wp_vret rfl ⟨rfl, rfl⟩
theorem ct_X7_shutTerm_s1 (σ : en_m) (n : Int) (D : Int) (p : Int) (d : Int) (hI : cS1 σ n D p) (hs : (σ r_Sums_shape) 0 = 1) (hd : 0 ≤ d ∧ d ≤ 4) (hS3 : R97 ((σ r_Sums_sumRowsR))) (hT3 : R97 ((σ r_Sums_termRowsR))) : en_ct z_X7_shutTerm [.inr (.inr (r_Sums, 0)), .inl d] σ (fun r σ' => r = none ∧ σ' = srl σ [(r_Sums_sumRowsR, (aR p d (σ r_Sums_sumRowsR) (σ r_Sums_termRowsR)))]) := by
  show en_wp k_X7_shutTerm 0 [some (.inr (.inr (r_Sums, 0))), some (.inl d), none, none, none] [] (srl σ []) (fun r σ' => r = none ∧ σ' = srl σ [(r_Sums_sumRowsR, (aR p d (σ r_Sums_sumRowsR) (σ r_Sums_termRowsR)))])
  have hI2 := hI
  obtain ⟨hO, hn, hD, hp, hm, hst, hln⟩ := hI2
  obtain ⟨⟨hO1, hO2⟩, ⟨hO3, hO4⟩, hO5, hO6, hO7, hO8⟩ := id hO
  have hAb := sS_b (k := D + 1) hO
  have L_17 : ∀ (N : Nat) (k : Int) (X : Int → Int), (0 ≤ k ∧ k ≤ 364) → (X = seg (σ r_Sums_sumRowsR) (d * 364) k (fun x => (σ r_Sums_sumRowsR (d * 364 + x) + σ r_Sums_termRowsR (d * 364 + x)) % p)) → (364 - k).toNat < N → en_wp k_X7_shutTerm 17 [some (.inr (.inr (r_Sums, 0))), some (.inl d), some (.inr (.inr (r_Sums_sumRowsR, d * 364))), some (.inr (.inr (r_Sums_termRowsR, d * 364))), some (.inl k)] [] (srl σ [(r_Sums_sumRowsR, X)]) (fun r σ' => r = none ∧ σ' = srl σ [(r_Sums_sumRowsR, (aR p d (σ r_Sums_sumRowsR) (σ r_Sums_termRowsR)))]) := by
    intro N
    induction N with
    | zero => intro k X; intros; omega
    | succ N ih_17 =>
      intro k X hk hX hN_17
      refine wp_run 2 (pc' := 22) (ls' := [some (.inr (.inr (r_Sums, 0))), some (.inl d), some (.inr (.inr (r_Sums_sumRowsR, d * 364))), some (.inr (.inr (r_Sums_termRowsR, d * 364))), some (.inl k)]) (st' := [.inl 364, .inl k]) (σ' := srl σ [(r_Sums_sumRowsR, X)]) rfl ?_
      refine wp_ic_ge rfl (by omega) (by omega) (fun h_1 => ?_) (fun h_1 => ?_)
      · show en_wp k_X7_shutTerm 51 [some (.inr (.inr (r_Sums, 0))), some (.inl d), some (.inr (.inr (r_Sums_sumRowsR, d * 364))), some (.inr (.inr (r_Sums_termRowsR, d * 364))), some (.inl k)] [] (srl σ [(r_Sums_sumRowsR, X)]) _
        exact wp_vret rfl ⟨rfl, (by rw [hX, show k = 364 by omega]; rfl)⟩
      · show en_wp k_X7_shutTerm 25 [some (.inr (.inr (r_Sums, 0))), some (.inl d), some (.inr (.inr (r_Sums_sumRowsR, d * 364))), some (.inr (.inr (r_Sums_termRowsR, d * 364))), some (.inl k)] [] (srl σ [(r_Sums_sumRowsR, X)]) _
        refine wp_run 3 (pc' := 29) (ls' := [some (.inr (.inr (r_Sums, 0))), some (.inl d), some (.inr (.inr (r_Sums_sumRowsR, d * 364))), some (.inr (.inr (r_Sums_termRowsR, d * 364))), some (.inl k)]) (st' := [.inr (.inr (r_Sums, 0)), .inl k, .inr (.inr (r_Sums_sumRowsR, d * 364))]) (σ' := srl σ [(r_Sums_sumRowsR, X)]) rfl ?_
        refine wp_get5 1 rfl rfl rfl rfl hs (by decide) ?_
        show en_wp k_X7_shutTerm 32 [some (.inr (.inr (r_Sums, 0))), some (.inl d), some (.inr (.inr (r_Sums_sumRowsR, d * 364))), some (.inr (.inr (r_Sums_termRowsR, d * 364))), some (.inl k)] [.inr (.inr (r_Shape1, 0)), .inl k, .inr (.inr (r_Sums_sumRowsR, d * 364))] (srl σ [(r_Sums_sumRowsR, X)]) _
        refine wp_run 2 (pc' := 35) (ls' := [some (.inr (.inr (r_Sums, 0))), some (.inl d), some (.inr (.inr (r_Sums_sumRowsR, d * 364))), some (.inr (.inr (r_Sums_termRowsR, d * 364))), some (.inl k)]) (st' := [.inl k, .inr (.inr (r_Sums_sumRowsR, d * 364)), .inr (.inr (r_Shape1, 0)), .inl k, .inr (.inr (r_Sums_sumRowsR, d * 364))]) (σ' := srl σ [(r_Sums_sumRowsR, X)]) rfl ?_
        refine wp_iald rfl rfl (by omega) ?_
        show en_wp k_X7_shutTerm 36 [some (.inr (.inr (r_Sums, 0))), some (.inl d), some (.inr (.inr (r_Sums_sumRowsR, d * 364))), some (.inr (.inr (r_Sums_termRowsR, d * 364))), some (.inl k)] [.inl (X (d * 364 + k)), .inr (.inr (r_Shape1, 0)), .inl k, .inr (.inr (r_Sums_sumRowsR, d * 364))] (srl σ [(r_Sums_sumRowsR, X)]) _
        refine wp_run 2 (pc' := 39) (ls' := [some (.inr (.inr (r_Sums, 0))), some (.inl d), some (.inr (.inr (r_Sums_sumRowsR, d * 364))), some (.inr (.inr (r_Sums_termRowsR, d * 364))), some (.inl k)]) (st' := [.inl k, .inr (.inr (r_Sums_termRowsR, d * 364)), .inl (X (d * 364 + k)), .inr (.inr (r_Shape1, 0)), .inl k, .inr (.inr (r_Sums_sumRowsR, d * 364))]) (σ' := srl σ [(r_Sums_sumRowsR, X)]) rfl ?_
        refine wp_iald rfl rfl (by omega) ?_
        show en_wp k_X7_shutTerm 40 [some (.inr (.inr (r_Sums, 0))), some (.inl d), some (.inr (.inr (r_Sums_sumRowsR, d * 364))), some (.inr (.inr (r_Sums_termRowsR, d * 364))), some (.inl k)] [.inl (σ r_Sums_termRowsR (d * 364 + k)), .inl (X (d * 364 + k)), .inr (.inr (r_Shape1, 0)), .inl k, .inr (.inr (r_Sums_sumRowsR, d * 364))] (srl σ [(r_Sums_sumRowsR, X)]) _
        refine wp_run 1 (pc' := 41) (ls' := [some (.inr (.inr (r_Sums, 0))), some (.inl d), some (.inr (.inr (r_Sums_sumRowsR, d * 364))), some (.inr (.inr (r_Sums_termRowsR, d * 364))), some (.inl k)]) (st' := [.inl ((X (d * 364 + k)) + (σ r_Sums_termRowsR (d * 364 + k))), .inr (.inr (r_Shape1, 0)), .inl k, .inr (.inr (r_Sums_sumRowsR, d * 364))]) (σ' := srl σ [(r_Sums_sumRowsR, X)]) rfl ?_
        have e1 : X (d * 364 + k) = σ r_Sums_sumRowsR (d * 364 + k) := by rw [hX]; exact seg_out (by omega)
        have e2 := hS3 (d * 364 + k)
        have e3 := hT3 (d * 364 + k)
        refine wp_fnv (v := .inl (((X (d * 364 + k)) + (σ r_Sums_termRowsR (d * 364 + k))) % p)) rfl rfl rfl rfl (ct_X5_rest_Shape1 (srl σ [(r_Sums_sumRowsR, X)]) n D p ((X (d * 364 + k)) + (σ r_Sums_termRowsR (d * 364 + k))) hI (by omega)) ?_
        show en_wp k_X7_shutTerm 44 [some (.inr (.inr (r_Sums, 0))), some (.inl d), some (.inr (.inr (r_Sums_sumRowsR, d * 364))), some (.inr (.inr (r_Sums_termRowsR, d * 364))), some (.inl k)] [.inl (((X (d * 364 + k)) + (σ r_Sums_termRowsR (d * 364 + k))) % p), .inl k, .inr (.inr (r_Sums_sumRowsR, d * 364))] (srl σ [(r_Sums_sumRowsR, X)]) _
        have q_2 : 0 ≤ ((X (d * 364 + k)) + (σ r_Sums_termRowsR (d * 364 + k))) % p ∧ ((X (d * 364 + k)) + (σ r_Sums_termRowsR (d * 364 + k))) % p < p := sR_lt hO.2.2.2
        refine wp_iast rfl rfl (by omega) (wp_wr (l2 := [(r_Sums_sumRowsR, (up X (d * 364 + k) (((X (d * 364 + k)) + (σ r_Sums_termRowsR (d * 364 + k))) % p)))]) rfl ?_)
        show en_wp k_X7_shutTerm 45 [some (.inr (.inr (r_Sums, 0))), some (.inl d), some (.inr (.inr (r_Sums_sumRowsR, d * 364))), some (.inr (.inr (r_Sums_termRowsR, d * 364))), some (.inl k)] [] (srl σ [(r_Sums_sumRowsR, (up X (d * 364 + k) (((X (d * 364 + k)) + (σ r_Sums_termRowsR (d * 364 + k))) % p)))]) _
        refine wp_run 2 (pc' := 17) (ls' := [some (.inr (.inr (r_Sums, 0))), some (.inl d), some (.inr (.inr (r_Sums_sumRowsR, d * 364))), some (.inr (.inr (r_Sums_termRowsR, d * 364))), some (.inl (k + 1))]) (st' := []) (σ' := srl σ [(r_Sums_sumRowsR, (up X (d * 364 + k) (((X (d * 364 + k)) + (σ r_Sums_termRowsR (d * 364 + k))) % p)))]) rfl ?_
        exact ih_17 (k + 1) (up X (d * 364 + k) (((X (d * 364 + k)) + (σ r_Sums_termRowsR (d * 364 + k))) % p)) (by omega) (by rw [e1, hX]; exact seg_up hk.1 rfl) (by omega)
  refine wp_run 3 (pc' := 5) (ls' := [some (.inr (.inr (r_Sums, 0))), some (.inl d), none, none, none]) (st' := [.inl d, .inr (.inr (r_Sums_sumRows, 0))]) (σ' := srl σ []) rfl ?_
  refine wp_aald (m := 364) rfl rfl rfl (by omega) ?_
  show en_wp k_X7_shutTerm 6 [some (.inr (.inr (r_Sums, 0))), some (.inl d), none, none, none] [.inr (.inr (r_Sums_sumRowsR, (d * 364)))] (srl σ []) _
  refine wp_run 4 (pc' := 12) (ls' := [some (.inr (.inr (r_Sums, 0))), some (.inl d), some (.inr (.inr (r_Sums_sumRowsR, (d * 364)))), none, none]) (st' := [.inl d, .inr (.inr (r_Sums_termRows, 0))]) (σ' := srl σ []) rfl ?_
  refine wp_aald (m := 364) rfl rfl rfl (by omega) ?_
  show en_wp k_X7_shutTerm 13 [some (.inr (.inr (r_Sums, 0))), some (.inl d), some (.inr (.inr (r_Sums_sumRowsR, (d * 364)))), none, none] [.inr (.inr (r_Sums_termRowsR, (d * 364)))] (srl σ []) _
  refine wp_run 3 (pc' := 17) (ls' := [some (.inr (.inr (r_Sums, 0))), some (.inl d), some (.inr (.inr (r_Sums_sumRowsR, (d * 364)))), some (.inr (.inr (r_Sums_termRowsR, (d * 364)))), some (.inl 0)]) (st' := []) (σ' := srl σ []) rfl ?_
  refine wp_mem (srl_eq (l' := [(r_Sums_sumRowsR, (σ r_Sums_sumRowsR))]) trivial (And.intro rfl trivial)) ?_
  exact L_17 _ 0 (σ r_Sums_sumRowsR) (by omega) (seg_0 _ _ _).symm (Nat.lt_succ_self _)
theorem ct_X7_multiplyByNumber_s1 (σ : en_m) (n : Int) (D : Int) (p : Int) (d : Int) (v : Int) (hI : cS1 σ n D p) (hs : (σ r_Sums_shape) 0 = 1) (hd : 0 ≤ d ∧ d ≤ 4) (hv : 0 ≤ v ∧ v ≤ 9999) (hT3 : R97 ((σ r_Sums_termRowsR))) : en_ct z_X7_multiplyByNumber [.inr (.inr (r_Sums, 0)), .inl d, .inl v] σ (fun r σ' => r = none ∧ σ' = srl σ [(r_Sums_termRowsR, (nR p d v (σ r_Sums_termRowsR)))]) := by
  show en_wp k_X7_multiplyByNumber 0 [some (.inr (.inr (r_Sums, 0))), some (.inl d), some (.inl v), none, none] [] (srl σ []) (fun r σ' => r = none ∧ σ' = srl σ [(r_Sums_termRowsR, (nR p d v (σ r_Sums_termRowsR)))])
  have hI2 := hI
  obtain ⟨hO, hn, hD, hp, hm, hst, hln⟩ := hI2
  obtain ⟨⟨hO1, hO2⟩, ⟨hO3, hO4⟩, hO5, hO6, hO7, hO8⟩ := id hO
  have hAb := sS_b (k := D + 1) hO
  have L_10 : ∀ (N : Nat) (k : Int) (X : Int → Int), (0 ≤ k ∧ k ≤ 364) → (X = seg (σ r_Sums_termRowsR) (d * 364) k (fun x => (σ r_Sums_termRowsR (d * 364 + x) * v) % p)) → (364 - k).toNat < N → en_wp k_X7_multiplyByNumber 10 [some (.inr (.inr (r_Sums, 0))), some (.inl d), some (.inl v), some (.inr (.inr (r_Sums_termRowsR, d * 364))), some (.inl k)] [] (srl σ [(r_Sums_termRowsR, X)]) (fun r σ' => r = none ∧ σ' = srl σ [(r_Sums_termRowsR, (nR p d v (σ r_Sums_termRowsR)))]) := by
    intro N
    induction N with
    | zero => intro k X; intros; omega
    | succ N ih_10 =>
      intro k X hk hX hN_10
      refine wp_run 2 (pc' := 15) (ls' := [some (.inr (.inr (r_Sums, 0))), some (.inl d), some (.inl v), some (.inr (.inr (r_Sums_termRowsR, d * 364))), some (.inl k)]) (st' := [.inl 364, .inl k]) (σ' := srl σ [(r_Sums_termRowsR, X)]) rfl ?_
      refine wp_ic_ge rfl (by omega) (by omega) (fun h_1 => ?_) (fun h_1 => ?_)
      · show en_wp k_X7_multiplyByNumber 41 [some (.inr (.inr (r_Sums, 0))), some (.inl d), some (.inl v), some (.inr (.inr (r_Sums_termRowsR, d * 364))), some (.inl k)] [] (srl σ [(r_Sums_termRowsR, X)]) _
        exact wp_vret rfl ⟨rfl, (by rw [hX, show k = 364 by omega]; rfl)⟩
      · show en_wp k_X7_multiplyByNumber 18 [some (.inr (.inr (r_Sums, 0))), some (.inl d), some (.inl v), some (.inr (.inr (r_Sums_termRowsR, d * 364))), some (.inl k)] [] (srl σ [(r_Sums_termRowsR, X)]) _
        refine wp_run 3 (pc' := 22) (ls' := [some (.inr (.inr (r_Sums, 0))), some (.inl d), some (.inl v), some (.inr (.inr (r_Sums_termRowsR, d * 364))), some (.inl k)]) (st' := [.inr (.inr (r_Sums, 0)), .inl k, .inr (.inr (r_Sums_termRowsR, d * 364))]) (σ' := srl σ [(r_Sums_termRowsR, X)]) rfl ?_
        refine wp_get5 1 rfl rfl rfl rfl hs (by decide) ?_
        show en_wp k_X7_multiplyByNumber 25 [some (.inr (.inr (r_Sums, 0))), some (.inl d), some (.inl v), some (.inr (.inr (r_Sums_termRowsR, d * 364))), some (.inl k)] [.inr (.inr (r_Shape1, 0)), .inl k, .inr (.inr (r_Sums_termRowsR, d * 364))] (srl σ [(r_Sums_termRowsR, X)]) _
        refine wp_run 2 (pc' := 28) (ls' := [some (.inr (.inr (r_Sums, 0))), some (.inl d), some (.inl v), some (.inr (.inr (r_Sums_termRowsR, d * 364))), some (.inl k)]) (st' := [.inl k, .inr (.inr (r_Sums_termRowsR, d * 364)), .inr (.inr (r_Shape1, 0)), .inl k, .inr (.inr (r_Sums_termRowsR, d * 364))]) (σ' := srl σ [(r_Sums_termRowsR, X)]) rfl ?_
        refine wp_iald rfl rfl (by omega) ?_
        show en_wp k_X7_multiplyByNumber 29 [some (.inr (.inr (r_Sums, 0))), some (.inl d), some (.inl v), some (.inr (.inr (r_Sums_termRowsR, d * 364))), some (.inl k)] [.inl (X (d * 364 + k)), .inr (.inr (r_Shape1, 0)), .inl k, .inr (.inr (r_Sums_termRowsR, d * 364))] (srl σ [(r_Sums_termRowsR, X)]) _
        refine wp_run 2 (pc' := 31) (ls' := [some (.inr (.inr (r_Sums, 0))), some (.inl d), some (.inl v), some (.inr (.inr (r_Sums_termRowsR, d * 364))), some (.inl k)]) (st' := [.inl ((X (d * 364 + k)) * v), .inr (.inr (r_Shape1, 0)), .inl k, .inr (.inr (r_Sums_termRowsR, d * 364))]) (σ' := srl σ [(r_Sums_termRowsR, X)]) rfl ?_
        have e1 : X (d * 364 + k) = σ r_Sums_termRowsR (d * 364 + k) := by rw [hX]; exact seg_out (by omega)
        have e3 := m99 (hT3 (d * 364 + k)) hv
        rw [← e1] at e3
        refine wp_fnv (v := .inl (((X (d * 364 + k)) * v) % p)) rfl rfl rfl rfl (ct_X5_rest_Shape1 (srl σ [(r_Sums_termRowsR, X)]) n D p ((X (d * 364 + k)) * v) hI (by omega)) ?_
        show en_wp k_X7_multiplyByNumber 34 [some (.inr (.inr (r_Sums, 0))), some (.inl d), some (.inl v), some (.inr (.inr (r_Sums_termRowsR, d * 364))), some (.inl k)] [.inl (((X (d * 364 + k)) * v) % p), .inl k, .inr (.inr (r_Sums_termRowsR, d * 364))] (srl σ [(r_Sums_termRowsR, X)]) _
        have q_2 : 0 ≤ ((X (d * 364 + k)) * v) % p ∧ ((X (d * 364 + k)) * v) % p < p := sR_lt hO.2.2.2
        refine wp_iast rfl rfl (by omega) (wp_wr (l2 := [(r_Sums_termRowsR, (up X (d * 364 + k) (((X (d * 364 + k)) * v) % p)))]) rfl ?_)
        show en_wp k_X7_multiplyByNumber 35 [some (.inr (.inr (r_Sums, 0))), some (.inl d), some (.inl v), some (.inr (.inr (r_Sums_termRowsR, d * 364))), some (.inl k)] [] (srl σ [(r_Sums_termRowsR, (up X (d * 364 + k) (((X (d * 364 + k)) * v) % p)))]) _
        refine wp_run 2 (pc' := 10) (ls' := [some (.inr (.inr (r_Sums, 0))), some (.inl d), some (.inl v), some (.inr (.inr (r_Sums_termRowsR, d * 364))), some (.inl (k + 1))]) (st' := []) (σ' := srl σ [(r_Sums_termRowsR, (up X (d * 364 + k) (((X (d * 364 + k)) * v) % p)))]) rfl ?_
        exact ih_10 (k + 1) (up X (d * 364 + k) (((X (d * 364 + k)) * v) % p)) (by omega) (by rw [e1, hX]; exact seg_up hk.1 rfl) (by omega)
  refine wp_run 3 (pc' := 5) (ls' := [some (.inr (.inr (r_Sums, 0))), some (.inl d), some (.inl v), none, none]) (st' := [.inl d, .inr (.inr (r_Sums_termRows, 0))]) (σ' := srl σ []) rfl ?_
  refine wp_aald (m := 364) rfl rfl rfl (by omega) ?_
  show en_wp k_X7_multiplyByNumber 6 [some (.inr (.inr (r_Sums, 0))), some (.inl d), some (.inl v), none, none] [.inr (.inr (r_Sums_termRowsR, (d * 364)))] (srl σ []) _
  refine wp_run 3 (pc' := 10) (ls' := [some (.inr (.inr (r_Sums, 0))), some (.inl d), some (.inl v), some (.inr (.inr (r_Sums_termRowsR, (d * 364)))), some (.inl 0)]) (st' := []) (σ' := srl σ []) rfl ?_
  refine wp_mem (srl_eq (l' := [(r_Sums_termRowsR, (σ r_Sums_termRowsR))]) trivial (And.intro rfl trivial)) ?_
  exact L_10 _ 0 (σ r_Sums_termRowsR) (by omega) (seg_0 _ _ _).symm (Nat.lt_succ_self _)
theorem ct_X7_multiplyByLetter_s1 (σ : en_m) (n : Int) (D : Int) (p : Int) (d : Int) (x : Int) (hI : cS1 σ n D p) (hs : (σ r_Sums_shape) 0 = 1) (hd : 0 ≤ d ∧ d ≤ 4) (hx : 0 ≤ x ∧ x < n) (hT3 : R97 ((σ r_Sums_termRowsR))) (hC3 : R97 ((σ r_Sums_spare))) (hTp : ∀ u, 0 ≤ u → u < 364 → (σ r_Sums_termRowsR) (d * 364 + u) < p) : en_ct z_X7_multiplyByLetter [.inr (.inr (r_Sums, 0)), .inl d, .inl x] σ (fun r σ' => ∃ (f_Sums_spare : Int → Int), ∃ (f_Sums_termRowsR : Int → Int), r = none ∧ σ' = srl σ [(r_Sums_spare, f_Sums_spare), (r_Sums_termRowsR, f_Sums_termRowsR)] ∧ (R97 f_Sums_spare) ∧ (f_Sums_termRowsR = lR n D p d x (σ r_Sums_termRowsR))) := by
  show en_wp k_X7_multiplyByLetter 0 [some (.inr (.inr (r_Sums, 0))), some (.inl d), some (.inl x), none, none, none, none, none] [] (srl σ []) (fun r σ' => ∃ (f_Sums_spare : Int → Int), ∃ (f_Sums_termRowsR : Int → Int), r = none ∧ σ' = srl σ [(r_Sums_spare, f_Sums_spare), (r_Sums_termRowsR, f_Sums_termRowsR)] ∧ (R97 f_Sums_spare) ∧ (f_Sums_termRowsR = lR n D p d x (σ r_Sums_termRowsR)))
  have hI2 := hI
  obtain ⟨hO, hn, hD, hp, hm, hst, hln⟩ := hI2
  obtain ⟨⟨hO1, hO2⟩, ⟨hO3, hO4⟩, hO5, hO6, hO7, hO8⟩ := id hO
  have hAb := sS_b (k := D + 1) hO
  have L_27 : ∀ (N : Nat) (l : Int) (C : Int → Int), (0 ≤ l ∧ l ≤ D) → (lI n D x (fun u => σ r_Sums_termRowsR (d * 364 + u)) C (sS n D l)) → (R97 C) → (D - l).toNat < N → en_wp k_X7_multiplyByLetter 27 [some (.inr (.inr (r_Sums, 0))), some (.inl d), some (.inl x), some (.inr (.inr (r_Sums_termRowsR, d * 364))), some (.inl n), some (.inl l), none, none] [] (srl σ [(r_Sums_spare, C)]) (fun r σ' => ∃ (f_Sums_spare : Int → Int), ∃ (f_Sums_termRowsR : Int → Int), r = none ∧ σ' = srl σ [(r_Sums_spare, f_Sums_spare), (r_Sums_termRowsR, f_Sums_termRowsR)] ∧ (R97 f_Sums_spare) ∧ (f_Sums_termRowsR = lR n D p d x (σ r_Sums_termRowsR))) := by
    intro N
    induction N with
    | zero => intro l C; intros; omega
    | succ N ih_27 =>
      intro l C hl hC hC4 hN_27
      have hWb := sW_b (k := l) hO
      have L_42 : ∀ (N : Nat) (w : Int) (C : Int → Int), (l < D) → (0 ≤ w ∧ w ≤ sW n D l) → (lI n D x (fun u => σ r_Sums_termRowsR (d * 364 + u)) C (sS n D l + w)) → (R97 C) → (sW n D l - w).toNat < N → en_wp k_X7_multiplyByLetter 42 [some (.inr (.inr (r_Sums, 0))), some (.inl d), some (.inl x), some (.inr (.inr (r_Sums_termRowsR, d * 364))), some (.inl n), some (.inl l), some (.inl w), none] [] (srl σ [(r_Sums_spare, C)]) (fun r σ' => ∃ (f_Sums_spare : Int → Int), ∃ (f_Sums_termRowsR : Int → Int), r = none ∧ σ' = srl σ [(r_Sums_spare, f_Sums_spare), (r_Sums_termRowsR, f_Sums_termRowsR)] ∧ (R97 f_Sums_spare) ∧ (f_Sums_termRowsR = lR n D p d x (σ r_Sums_termRowsR))) := by
        intro N
        induction N with
        | zero => intro w C; intros; omega
        | succ N ih_42 =>
          intro w C hl2 hw hC hC4 hN_42
          refine wp_run 2 (pc' := 45) (ls' := [some (.inr (.inr (r_Sums, 0))), some (.inl d), some (.inl x), some (.inr (.inr (r_Sums_termRowsR, d * 364))), some (.inl n), some (.inl l), some (.inl w), none]) (st' := [.inr (.inr (r_Sums, 0)), .inl w]) (σ' := srl σ [(r_Sums_spare, C)]) rfl ?_
          refine wp_get5 1 rfl rfl rfl rfl hs (by decide) ?_
          show en_wp k_X7_multiplyByLetter 48 [some (.inr (.inr (r_Sums, 0))), some (.inl d), some (.inl x), some (.inr (.inr (r_Sums_termRowsR, d * 364))), some (.inl n), some (.inl l), some (.inl w), none] [.inr (.inr (r_Shape1, 0)), .inl w] (srl σ [(r_Sums_spare, C)]) _
          refine wp_run 1 (pc' := 50) (ls' := [some (.inr (.inr (r_Sums, 0))), some (.inl d), some (.inl x), some (.inr (.inr (r_Sums_termRowsR, d * 364))), some (.inl n), some (.inl l), some (.inl w), none]) (st' := [.inl l, .inr (.inr (r_Shape1, 0)), .inl w]) (σ' := srl σ [(r_Sums_spare, C)]) rfl ?_
          refine wp_fnv (v := .inl (sW n D l)) rfl rfl rfl rfl (ct_X5_wordsOf_Shape1 (srl σ [(r_Sums_spare, C)]) n D p l hI (by omega)) ?_
          show en_wp k_X7_multiplyByLetter 53 [some (.inr (.inr (r_Sums, 0))), some (.inl d), some (.inl x), some (.inr (.inr (r_Sums_termRowsR, d * 364))), some (.inl n), some (.inl l), some (.inl w), none] [.inl (sW n D l), .inl w] (srl σ [(r_Sums_spare, C)]) _
          have q_1 : 0 ≤ sW n D l ∧ sW n D l ≤ 256 := sW_b hO
          refine wp_ic_ge rfl (by omega) (by omega) (fun h_2 => ?_) (fun h_2 => ?_)
          · show en_wp k_X7_multiplyByLetter 112 [some (.inr (.inr (r_Sums, 0))), some (.inl d), some (.inl x), some (.inr (.inr (r_Sums_termRowsR, d * 364))), some (.inl n), some (.inl l), some (.inl w), none] [] (srl σ [(r_Sums_spare, C)]) _
            refine wp_run 2 (pc' := 27) (ls' := [some (.inr (.inr (r_Sums, 0))), some (.inl d), some (.inl x), some (.inr (.inr (r_Sums_termRowsR, d * 364))), some (.inl n), some (.inl (l + 1)), some (.inl w), none]) (st' := []) (σ' := srl σ [(r_Sums_spare, C)]) rfl ?_
            refine wp_sub (l := [some (.inr (.inr (r_Sums, 0))), some (.inl d), some (.inl x), some (.inr (.inr (r_Sums_termRowsR, d * 364))), some (.inl n), some (.inl (l + 1)), none, none]) (And.intro rfl (And.intro rfl (And.intro rfl (And.intro rfl (And.intro rfl (And.intro rfl trivial)))))) ?_
            exact ih_27 (l + 1) C (by omega) (by rw [sS_succ hl.1, show sW n D l = w by omega]; exact hC) hC4 (by omega)
          · show en_wp k_X7_multiplyByLetter 56 [some (.inr (.inr (r_Sums, 0))), some (.inl d), some (.inl x), some (.inr (.inr (r_Sums_termRowsR, d * 364))), some (.inl n), some (.inl l), some (.inl w), none] [] (srl σ [(r_Sums_spare, C)]) _
            refine wp_run 1 (pc' := 57) (ls' := [some (.inr (.inr (r_Sums, 0))), some (.inl d), some (.inl x), some (.inr (.inr (r_Sums_termRowsR, d * 364))), some (.inl n), some (.inl l), some (.inl w), none]) (st' := [.inr (.inr (r_Sums, 0))]) (σ' := srl σ [(r_Sums_spare, C)]) rfl ?_
            refine wp_get5 1 rfl rfl rfl rfl hs (by decide) ?_
            show en_wp k_X7_multiplyByLetter 60 [some (.inr (.inr (r_Sums, 0))), some (.inl d), some (.inl x), some (.inr (.inr (r_Sums_termRowsR, d * 364))), some (.inl n), some (.inl l), some (.inl w), none] [.inr (.inr (r_Shape1, 0))] (srl σ [(r_Sums_spare, C)]) _
            refine wp_run 3 (pc' := 64) (ls' := [some (.inr (.inr (r_Sums, 0))), some (.inl d), some (.inl x), some (.inr (.inr (r_Sums_termRowsR, d * 364))), some (.inl n), some (.inl l), some (.inl w), none]) (st' := [.inl (l + 1), .inr (.inr (r_Shape1, 0))]) (σ' := srl σ [(r_Sums_spare, C)]) rfl ?_
            have hll := sL_word hO hl.1 (w := w) (by omega)
            have hss := sS_word hO hl.1 (w := w) (by omega)
            have hsm := sS_mono (D := D) hO.1.1 (show l + 1 ≤ D by omega)
            have hsc := sS_succ (n := n) (D := D) hl.1
            have hsb := sS_b (k := D + 1) hO
            have hsl := sS_b (k := l + 1) hO
            have hbi := bLt_in hO hx (u := sS n D l + w) (by omega) (by rw [hll]; omega)
            have hat : bLt n D x (sS n D l + w) = sS n D (l + 1) + w * n + x := by unfold bLt; rw [hll, show sS n D l + w - sS n D l = w by omega]
            rw [hat, hll] at hbi
            have hbp := hbi.2.2
            have hwn : 0 ≤ w * n := Int.mul_nonneg hw.1 hO.1.1
            refine wp_fnv (v := .inl (sS n D (l + 1))) rfl rfl rfl rfl (ct_X5_startOf_Shape1_p (srl σ [(r_Sums_spare, C)]) n D p (l + 1) hI (by omega)) ?_
            show en_wp k_X7_multiplyByLetter 67 [some (.inr (.inr (r_Sums, 0))), some (.inl d), some (.inl x), some (.inr (.inr (r_Sums_termRowsR, d * 364))), some (.inl n), some (.inl l), some (.inl w), none] [.inl (sS n D (l + 1))] (srl σ [(r_Sums_spare, C)]) _
            have q_3 : 0 ≤ sS n D (l + 1) ∧ sS n D (l + 1) ≤ 364 := sS_b hO
            refine wp_run 9 (pc' := 82) (ls' := [some (.inr (.inr (r_Sums, 0))), some (.inl d), some (.inl x), some (.inr (.inr (r_Sums_termRowsR, d * 364))), some (.inl n), some (.inl l), some (.inl w), some (.inl (((sS n D (l + 1)) + (w * n)) + x))]) (st' := [.inl 364, .inl (((sS n D (l + 1)) + (w * n)) + x)]) (σ' := srl σ [(r_Sums_spare, C)]) rfl ?_
            refine wp_ic_ge rfl (by omega) (by omega) (fun h_4 => ?_) (fun h_4 => ?_)
            · exfalso; omega
            · show en_wp k_X7_multiplyByLetter 85 [some (.inr (.inr (r_Sums, 0))), some (.inl d), some (.inl x), some (.inr (.inr (r_Sums_termRowsR, d * 364))), some (.inl n), some (.inl l), some (.inl w), some (.inl (((sS n D (l + 1)) + (w * n)) + x))] [] (srl σ [(r_Sums_spare, C)]) _
              refine wp_run 5 (pc' := 93) (ls' := [some (.inr (.inr (r_Sums, 0))), some (.inl d), some (.inl x), some (.inr (.inr (r_Sums_termRowsR, d * 364))), some (.inl n), some (.inl l), some (.inl w), some (.inl (((sS n D (l + 1)) + (w * n)) + x))]) (st' := [.inr (.inr (r_Sums, 0)), .inr (.inr (r_Sums_termRowsR, d * 364)), .inl (((sS n D (l + 1)) + (w * n)) + x), .inr (.inr (r_Sums_spare, 0))]) (σ' := srl σ [(r_Sums_spare, C)]) rfl ?_
              refine wp_get5 1 rfl rfl rfl rfl hs (by decide) ?_
              show en_wp k_X7_multiplyByLetter 96 [some (.inr (.inr (r_Sums, 0))), some (.inl d), some (.inl x), some (.inr (.inr (r_Sums_termRowsR, d * 364))), some (.inl n), some (.inl l), some (.inl w), some (.inl (((sS n D (l + 1)) + (w * n)) + x))] [.inr (.inr (r_Shape1, 0)), .inr (.inr (r_Sums_termRowsR, d * 364)), .inl (((sS n D (l + 1)) + (w * n)) + x), .inr (.inr (r_Sums_spare, 0))] (srl σ [(r_Sums_spare, C)]) _
              refine wp_run 1 (pc' := 98) (ls' := [some (.inr (.inr (r_Sums, 0))), some (.inl d), some (.inl x), some (.inr (.inr (r_Sums_termRowsR, d * 364))), some (.inl n), some (.inl l), some (.inl w), some (.inl (((sS n D (l + 1)) + (w * n)) + x))]) (st' := [.inl l, .inr (.inr (r_Shape1, 0)), .inr (.inr (r_Sums_termRowsR, d * 364)), .inl (((sS n D (l + 1)) + (w * n)) + x), .inr (.inr (r_Sums_spare, 0))]) (σ' := srl σ [(r_Sums_spare, C)]) rfl ?_
              refine wp_fnv (v := .inl (sS n D l)) rfl rfl rfl rfl (ct_X5_startOf_Shape1_p (srl σ [(r_Sums_spare, C)]) n D p l hI (by omega)) ?_
              show en_wp k_X7_multiplyByLetter 101 [some (.inr (.inr (r_Sums, 0))), some (.inl d), some (.inl x), some (.inr (.inr (r_Sums_termRowsR, d * 364))), some (.inl n), some (.inl l), some (.inl w), some (.inl (((sS n D (l + 1)) + (w * n)) + x))] [.inl (sS n D l), .inr (.inr (r_Sums_termRowsR, d * 364)), .inl (((sS n D (l + 1)) + (w * n)) + x), .inr (.inr (r_Sums_spare, 0))] (srl σ [(r_Sums_spare, C)]) _
              have q_5 : 0 ≤ sS n D l ∧ sS n D l ≤ 364 := sS_b hO
              refine wp_run 2 (pc' := 104) (ls' := [some (.inr (.inr (r_Sums, 0))), some (.inl d), some (.inl x), some (.inr (.inr (r_Sums_termRowsR, d * 364))), some (.inl n), some (.inl l), some (.inl w), some (.inl (((sS n D (l + 1)) + (w * n)) + x))]) (st' := [.inl ((sS n D l) + w), .inr (.inr (r_Sums_termRowsR, d * 364)), .inl (((sS n D (l + 1)) + (w * n)) + x), .inr (.inr (r_Sums_spare, 0))]) (σ' := srl σ [(r_Sums_spare, C)]) rfl ?_
              refine wp_iald rfl rfl (by omega) ?_
              show en_wp k_X7_multiplyByLetter 105 [some (.inr (.inr (r_Sums, 0))), some (.inl d), some (.inl x), some (.inr (.inr (r_Sums_termRowsR, d * 364))), some (.inl n), some (.inl l), some (.inl w), some (.inl (((sS n D (l + 1)) + (w * n)) + x))] [.inl (σ r_Sums_termRowsR (d * 364 + ((sS n D l) + w))), .inl (((sS n D (l + 1)) + (w * n)) + x), .inr (.inr (r_Sums_spare, 0))] (srl σ [(r_Sums_spare, C)]) _
              refine wp_iast0 rfl rfl (by omega) (wp_wr (l2 := [(r_Sums_spare, (up C (((sS n D (l + 1)) + (w * n)) + x) (σ r_Sums_termRowsR (d * 364 + ((sS n D l) + w)))))]) rfl ?_)
              show en_wp k_X7_multiplyByLetter 106 [some (.inr (.inr (r_Sums, 0))), some (.inl d), some (.inl x), some (.inr (.inr (r_Sums_termRowsR, d * 364))), some (.inl n), some (.inl l), some (.inl w), some (.inl (((sS n D (l + 1)) + (w * n)) + x))] [] (srl σ [(r_Sums_spare, (up C (((sS n D (l + 1)) + (w * n)) + x) (σ r_Sums_termRowsR (d * 364 + ((sS n D l) + w)))))]) _
              refine wp_run 2 (pc' := 42) (ls' := [some (.inr (.inr (r_Sums, 0))), some (.inl d), some (.inl x), some (.inr (.inr (r_Sums_termRowsR, d * 364))), some (.inl n), some (.inl l), some (.inl (w + 1)), some (.inl (((sS n D (l + 1)) + (w * n)) + x))]) (st' := []) (σ' := srl σ [(r_Sums_spare, (up C (((sS n D (l + 1)) + (w * n)) + x) (σ r_Sums_termRowsR (d * 364 + ((sS n D l) + w)))))]) rfl ?_
              refine wp_sub (l := [some (.inr (.inr (r_Sums, 0))), some (.inl d), some (.inl x), some (.inr (.inr (r_Sums_termRowsR, d * 364))), some (.inl n), some (.inl l), some (.inl (w + 1)), none]) (And.intro rfl (And.intro rfl (And.intro rfl (And.intro rfl (And.intro rfl (And.intro rfl (And.intro rfl trivial))))))) ?_
              exact ih_42 (w + 1) (up C (((sS n D (l + 1)) + (w * n)) + x) (σ r_Sums_termRowsR (d * 364 + ((sS n D l) + w)))) (by omega) (by omega) (by have e9 := lI_s hO hx (u := sS n D l + w) (by omega) hC; rw [hat] at e9; rw [show sS n D l + (w + 1) = sS n D l + w + 1 by omega]; exact e9) (R97_up hC4 (hT3 _)) (by omega)
      refine wp_run 2 (pc' := 30) (ls' := [some (.inr (.inr (r_Sums, 0))), some (.inl d), some (.inl x), some (.inr (.inr (r_Sums_termRowsR, d * 364))), some (.inl n), some (.inl l), none, none]) (st' := [.inr (.inr (r_Sums, 0)), .inl l]) (σ' := srl σ [(r_Sums_spare, C)]) rfl ?_
      refine wp_get5 1 rfl rfl rfl rfl hs (by decide) ?_
      show en_wp k_X7_multiplyByLetter 33 [some (.inr (.inr (r_Sums, 0))), some (.inl d), some (.inl x), some (.inr (.inr (r_Sums_termRowsR, d * 364))), some (.inl n), some (.inl l), none, none] [.inr (.inr (r_Shape1, 0)), .inl l] (srl σ [(r_Sums_spare, C)]) _
      refine wp_fnv (v := .inl D) rfl rfl rfl rfl (ct_X5_longest_Shape1 (srl σ [(r_Sums_spare, C)]) n D p hI) ?_
      show en_wp k_X7_multiplyByLetter 36 [some (.inr (.inr (r_Sums, 0))), some (.inl d), some (.inl x), some (.inr (.inr (r_Sums_termRowsR, d * 364))), some (.inl n), some (.inl l), none, none] [.inl D, .inl l] (srl σ [(r_Sums_spare, C)]) _
      refine wp_ic_ge rfl (by omega) (by omega) (fun h_6 => ?_) (fun h_6 => ?_)
      · show en_wp k_X7_multiplyByLetter 118 [some (.inr (.inr (r_Sums, 0))), some (.inl d), some (.inl x), some (.inr (.inr (r_Sums_termRowsR, d * 364))), some (.inl n), some (.inl l), none, none] [] (srl σ [(r_Sums_spare, C)]) _
        refine wp_run 6 (pc' := 128) (ls' := [some (.inr (.inr (r_Sums, 0))), some (.inl d), some (.inl x), some (.inr (.inr (r_Sums_termRowsR, d * 364))), some (.inl n), some (.inl l), none, none]) (st' := [.inl 364, .inl 0, .inr (.inr (r_Sums_termRowsR, d * 364)), .inl 0, .inr (.inr (r_Sums_spare, 0))]) (σ' := srl σ [(r_Sums_spare, C)]) rfl ?_
        refine wp_copy rfl rfl rfl rfl (by omega) (by omega) (by omega) (wp_wr (l2 := [(r_Sums_spare, C), (r_Sums_termRowsR, (en_cpy C (σ r_Sums_termRowsR) (0 + 0) (d * 364 + 0) 364))]) rfl ?_)
        show en_wp k_X7_multiplyByLetter 131 [some (.inr (.inr (r_Sums, 0))), some (.inl d), some (.inl x), some (.inr (.inr (r_Sums_termRowsR, d * 364))), some (.inl n), some (.inl l), none, none] [] (srl σ [(r_Sums_spare, C), (r_Sums_termRowsR, (en_cpy C (σ r_Sums_termRowsR) (0 + 0) (d * 364 + 0) 364))]) _
        exact wp_vret rfl ⟨C, (en_cpy C (σ r_Sums_termRowsR) (0 + 0) (d * 364 + 0) 364), rfl, srl_eq (l' := [(r_Sums_spare, C), (r_Sums_termRowsR, (en_cpy C (σ r_Sums_termRowsR) (0 + 0) (d * 364 + 0) 364))]) (And.intro rfl (And.intro rfl trivial)) (And.intro rfl (And.intro rfl trivial)), ⟨hC4, by rw [show (0 : Int) + 0 = 0 from rfl, Int.add_zero]; exact sg_cp (fun y a b => lI_fin hO hx (fun u u0 u1 => ⟨(hT3 _).1, hTp u u0 (by have := sS_b (k := D + 1) hO; omega)⟩) (by rw [show D = l by omega]; rw [show l = D by omega] at hC; rw [show l = D by omega]; exact hC) y ⟨a, b⟩)⟩⟩
      · show en_wp k_X7_multiplyByLetter 39 [some (.inr (.inr (r_Sums, 0))), some (.inl d), some (.inl x), some (.inr (.inr (r_Sums_termRowsR, d * 364))), some (.inl n), some (.inl l), none, none] [] (srl σ [(r_Sums_spare, C)]) _
        refine wp_run 2 (pc' := 42) (ls' := [some (.inr (.inr (r_Sums, 0))), some (.inl d), some (.inl x), some (.inr (.inr (r_Sums_termRowsR, d * 364))), some (.inl n), some (.inl l), some (.inl 0), none]) (st' := []) (σ' := srl σ [(r_Sums_spare, C)]) rfl ?_
        exact L_42 _ 0 C (by omega) (by omega) (by rw [Int.add_zero]; exact hC) hC4 (Nat.lt_succ_self _)
  refine wp_run 3 (pc' := 5) (ls' := [some (.inr (.inr (r_Sums, 0))), some (.inl d), some (.inl x), none, none, none, none, none]) (st' := [.inl d, .inr (.inr (r_Sums_termRows, 0))]) (σ' := srl σ []) rfl ?_
  refine wp_aald (m := 364) rfl rfl rfl (by omega) ?_
  show en_wp k_X7_multiplyByLetter 6 [some (.inr (.inr (r_Sums, 0))), some (.inl d), some (.inl x), none, none, none, none, none] [.inr (.inr (r_Sums_termRowsR, (d * 364)))] (srl σ []) _
  refine wp_run 2 (pc' := 8) (ls' := [some (.inr (.inr (r_Sums, 0))), some (.inl d), some (.inl x), some (.inr (.inr (r_Sums_termRowsR, (d * 364)))), none, none, none, none]) (st' := [.inr (.inr (r_Sums, 0))]) (σ' := srl σ []) rfl ?_
  refine wp_get5 1 rfl rfl rfl rfl hs (by decide) ?_
  show en_wp k_X7_multiplyByLetter 11 [some (.inr (.inr (r_Sums, 0))), some (.inl d), some (.inl x), some (.inr (.inr (r_Sums_termRowsR, (d * 364)))), none, none, none, none] [.inr (.inr (r_Shape1, 0))] (srl σ []) _
  refine wp_fnv (v := .inl n) rfl rfl rfl rfl (ct_X5_lettersTold_Shape1 σ n D p hI) ?_
  show en_wp k_X7_multiplyByLetter 14 [some (.inr (.inr (r_Sums, 0))), some (.inl d), some (.inl x), some (.inr (.inr (r_Sums_termRowsR, (d * 364)))), none, none, none, none] [.inl n] (srl σ []) _
  refine wp_run 4 (pc' := 21) (ls' := [some (.inr (.inr (r_Sums, 0))), some (.inl d), some (.inl x), some (.inr (.inr (r_Sums_termRowsR, (d * 364)))), some (.inl n), none, none, none]) (st' := [.inl 0, .inr (.inr (r_Sums_spare, 0))]) (σ' := srl σ []) rfl ?_
  refine wp_calls rfl rfl rfl rfl rfl (ct_J7_fill_53178_Sums_spare σ 0) ?_
  rintro _ _ ⟨rfl, rfl⟩
  show en_wp k_X7_multiplyByLetter 24 [some (.inr (.inr (r_Sums, 0))), some (.inl d), some (.inl x), some (.inr (.inr (r_Sums_termRowsR, (d * 364)))), some (.inl n), none, none, none] [] (srl σ [(r_Sums_spare, (seg (σ r_Sums_spare) 0 364 (fun _ => 0)))]) _
  refine wp_run 2 (pc' := 27) (ls' := [some (.inr (.inr (r_Sums, 0))), some (.inl d), some (.inl x), some (.inr (.inr (r_Sums_termRowsR, (d * 364)))), some (.inl n), some (.inl 0), none, none]) (st' := []) (σ' := srl σ [(r_Sums_spare, (seg (σ r_Sums_spare) 0 364 (fun _ => 0)))]) rfl ?_
  exact L_27 _ 0 (seg (σ r_Sums_spare) 0 364 (fun _ => 0)) (by omega) ⟨fun v a b => by rw [sS_0] at b; omega, fun y _ a b => seg_in0 (g := fun _ => 0) ⟨a, b⟩⟩ (R97_seg hC3 (fun _ _ _ => by decide)) (Nat.lt_succ_self _)
theorem ct_X7_multiplyByRow_s1 (σ : en_m) (n : Int) (D : Int) (p : Int) (d : Int) (row : Int) (hI : cS1 σ n D p) (hs : (σ r_Sums_shape) 0 = 1) (hd : 0 ≤ d ∧ d ≤ 4) (hS3 : R97 ((σ r_Sums_sumRowsR))) (hT3 : R97 ((σ r_Sums_termRowsR))) (hC3 : R97 ((σ r_Sums_spare))) : en_ct z_X7_multiplyByRow [.inr (.inr (r_Sums, 0)), .inl d, .inr (.inr (r_Sums_sumRowsR, row))] σ (fun r σ' => ∃ (f_Sums_spare : Int → Int), ∃ (f_Sums_termRowsR : Int → Int), r = none ∧ σ' = srl σ [(r_Sums_spare, f_Sums_spare), (r_Sums_termRowsR, f_Sums_termRowsR)] ∧ (R97 f_Sums_spare) ∧ (f_Sums_termRowsR = seg (σ r_Sums_termRowsR) (d * 364) 364 (fun y => prd n D (fun u => (σ r_Sums_termRowsR) (d * 364 + u)) (fun u => (σ r_Sums_sumRowsR) (row + u)) y % p))) := by
  show en_wp k_X7_multiplyByRow 0 [some (.inr (.inr (r_Sums, 0))), some (.inl d), some (.inr (.inr (r_Sums_sumRowsR, row)))] [] (srl σ []) (fun r σ' => ∃ (f_Sums_spare : Int → Int), ∃ (f_Sums_termRowsR : Int → Int), r = none ∧ σ' = srl σ [(r_Sums_spare, f_Sums_spare), (r_Sums_termRowsR, f_Sums_termRowsR)] ∧ (R97 f_Sums_spare) ∧ (f_Sums_termRowsR = seg (σ r_Sums_termRowsR) (d * 364) 364 (fun y => prd n D (fun u => (σ r_Sums_termRowsR) (d * 364 + u)) (fun u => (σ r_Sums_sumRowsR) (row + u)) y % p)))
  have hI2 := hI
  obtain ⟨hO, hn, hD, hp, hm, hst, hln⟩ := hI2
  obtain ⟨⟨hO1, hO2⟩, ⟨hO3, hO4⟩, hO5, hO6, hO7, hO8⟩ := id hO
  have hAb := sS_b (k := D + 1) hO
  refine wp_run 3 (pc' := 5) (ls' := [some (.inr (.inr (r_Sums, 0))), some (.inl d), some (.inr (.inr (r_Sums_sumRowsR, row)))]) (st' := [.inl 0, .inr (.inr (r_Sums_spare, 0))]) (σ' := srl σ []) rfl ?_
  refine wp_calls rfl rfl rfl rfl rfl (ct_J7_fill_53178_Sums_spare σ 0) ?_
  rintro _ _ ⟨rfl, rfl⟩
  show en_wp k_X7_multiplyByRow 8 [some (.inr (.inr (r_Sums, 0))), some (.inl d), some (.inr (.inr (r_Sums_sumRowsR, row)))] [] (srl σ [(r_Sums_spare, (seg (σ r_Sums_spare) 0 364 (fun _ => 0)))]) _
  refine wp_run 1 (pc' := 9) (ls' := [some (.inr (.inr (r_Sums, 0))), some (.inl d), some (.inr (.inr (r_Sums_sumRowsR, row)))]) (st' := [.inr (.inr (r_Sums, 0))]) (σ' := srl σ [(r_Sums_spare, (seg (σ r_Sums_spare) 0 364 (fun _ => 0)))]) rfl ?_
  refine wp_get5 1 rfl rfl rfl rfl hs (by decide) ?_
  show en_wp k_X7_multiplyByRow 12 [some (.inr (.inr (r_Sums, 0))), some (.inl d), some (.inr (.inr (r_Sums_sumRowsR, row)))] [.inr (.inr (r_Shape1, 0))] (srl σ [(r_Sums_spare, (seg (σ r_Sums_spare) 0 364 (fun _ => 0)))]) _
  refine wp_run 5 (pc' := 21) (ls' := [some (.inr (.inr (r_Sums, 0))), some (.inl d), some (.inr (.inr (r_Sums_sumRowsR, row)))]) (st' := [.inl d, .inr (.inr (r_Sums_termRows, 0)), .inr (.inr (r_Sums_spare, 0)), .inr (.inr (r_Shape1, 0))]) (σ' := srl σ [(r_Sums_spare, (seg (σ r_Sums_spare) 0 364 (fun _ => 0)))]) rfl ?_
  refine wp_aald (m := 364) rfl rfl rfl (by omega) ?_
  show en_wp k_X7_multiplyByRow 22 [some (.inr (.inr (r_Sums, 0))), some (.inl d), some (.inr (.inr (r_Sums_sumRowsR, row)))] [.inr (.inr (r_Sums_termRowsR, (d * 364))), .inr (.inr (r_Sums_spare, 0)), .inr (.inr (r_Shape1, 0))] (srl σ [(r_Sums_spare, (seg (σ r_Sums_spare) 0 364 (fun _ => 0)))]) _
  refine wp_run 2 (pc' := 24) (ls' := [some (.inr (.inr (r_Sums, 0))), some (.inl d), some (.inr (.inr (r_Sums_sumRowsR, row)))]) (st' := [.inl 1, .inr (.inr (r_Sums_sumRowsR, row)), .inr (.inr (r_Sums_termRowsR, (d * 364))), .inr (.inr (r_Sums_spare, 0)), .inr (.inr (r_Shape1, 0))]) (σ' := srl σ [(r_Sums_spare, (seg (σ r_Sums_spare) 0 364 (fun _ => 0)))]) rfl ?_
  refine wp_callv rfl rfl rfl rfl (ct_X5_addProduct_Shape1_Sums_spare_Sums_termRowsR_Sums_sumRowsR (srl σ [(r_Sums_spare, (seg (σ r_Sums_spare) 0 364 (fun _ => 0)))]) n D p (d * 364) row 1 hI (by omega) hT3 hS3 (fill_0 (by omega) (by omega))) ?_
  rintro _ _ ⟨f_1, rfl, rfl, p_2, p_3⟩
  have p_2 : ∀ x, 0 ≤ x → x < sS n D (D + 1) → (0 ≤ f_1 x ∧ f_1 x < p) ∧ mE p (f_1 x) ((seg (σ r_Sums_spare) 0 364 (fun _ => 0)) x + 1 * prd n D (fun x => (σ r_Sums_termRowsR) ((d * 364) + x)) (fun x => (σ r_Sums_sumRowsR) (row + x)) x) := p_2
  have p_3 : ∀ x, ¬ (0 ≤ x ∧ x < sS n D (D + 1)) → f_1 x = (seg (σ r_Sums_spare) 0 364 (fun _ => 0)) x := p_3
  refine wp_bk (l2 := [(r_Sums_spare, f_1)]) rfl rfl ?_
  show en_wp k_X7_multiplyByRow 27 [some (.inr (.inr (r_Sums, 0))), some (.inl d), some (.inr (.inr (r_Sums_sumRowsR, row)))] [] (srl σ [(r_Sums_spare, f_1)]) _
  have kk := (⟨p_2, p_3⟩ : _ ∧ _)
  refine wp_run 6 (pc' := 37) (ls' := [some (.inr (.inr (r_Sums, 0))), some (.inl d), some (.inr (.inr (r_Sums_sumRowsR, row)))]) (st' := [.inl d, .inr (.inr (r_Sums_termRows, 0)), .inl 0, .inr (.inr (r_Sums_spare, 0))]) (σ' := srl σ [(r_Sums_spare, f_1)]) rfl ?_
  refine wp_aald (m := 364) rfl rfl rfl (by omega) ?_
  show en_wp k_X7_multiplyByRow 38 [some (.inr (.inr (r_Sums, 0))), some (.inl d), some (.inr (.inr (r_Sums_sumRowsR, row)))] [.inr (.inr (r_Sums_termRowsR, (d * 364))), .inl 0, .inr (.inr (r_Sums_spare, 0))] (srl σ [(r_Sums_spare, f_1)]) _
  refine wp_run 2 (pc' := 42) (ls' := [some (.inr (.inr (r_Sums, 0))), some (.inl d), some (.inr (.inr (r_Sums_sumRowsR, row)))]) (st' := [.inl 364, .inl 0, .inr (.inr (r_Sums_termRowsR, (d * 364))), .inl 0, .inr (.inr (r_Sums_spare, 0))]) (σ' := srl σ [(r_Sums_spare, f_1)]) rfl ?_
  refine wp_copy rfl rfl rfl rfl (by omega) (by omega) (by omega) (wp_wr (l2 := [(r_Sums_spare, f_1), (r_Sums_termRowsR, (en_cpy f_1 (σ r_Sums_termRowsR) (0 + 0) ((d * 364) + 0) 364))]) rfl ?_)
  show en_wp k_X7_multiplyByRow 45 [some (.inr (.inr (r_Sums, 0))), some (.inl d), some (.inr (.inr (r_Sums_sumRowsR, row)))] [] (srl σ [(r_Sums_spare, f_1), (r_Sums_termRowsR, (en_cpy f_1 (σ r_Sums_termRowsR) (0 + 0) ((d * 364) + 0) 364))]) _
  exact wp_vret rfl ⟨f_1, (en_cpy f_1 (σ r_Sums_termRowsR) (0 + 0) ((d * 364) + 0) 364), rfl, srl_eq (l' := [(r_Sums_spare, f_1), (r_Sums_termRowsR, (en_cpy f_1 (σ r_Sums_termRowsR) (0 + 0) ((d * 364) + 0) 364))]) (And.intro rfl (And.intro rfl trivial)) (And.intro rfl (And.intro rfl trivial)), ⟨mi_97 hO (R97_seg hC3 (fun _ _ _ => by decide)) (fun x h8 h9 => (kk.1 x h8 h9).1) kk.2, by rw [show (0 : Int) + 0 = 0 from rfl, Int.add_zero]; exact sg_cp (fun y a b => mR_fin hO (fun x a b => seg_in0 (g := fun _ => 0) ⟨a, b⟩) kk.1 kk.2 y a b)⟩⟩
