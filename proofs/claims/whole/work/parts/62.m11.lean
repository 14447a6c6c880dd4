/-! contracts of methods, walked (written by wip/whole/walk.py from the annotations ann_m11) -/
theorem ct_X5_greatestIn_Shape0_Elements_spare (σ : en_m) (n : Int) (D : Int) (p : Int) (hI : cS0 σ n D p) (hE : R97 ((σ r_Elements_spare))) : en_fn z_X5_greatestIn [.inr (.inr (r_Shape0, 0)), .inr (.inr (r_Elements_spare, 0))] σ (.inl (sG (fun k => (σ r_Elements_spare) (k)) (sS n D (D + 1)).toNat)) := by
  show en_wp k_X5_greatestIn 0 [some (.inr (.inr (r_Shape0, 0))), some (.inr (.inr (r_Elements_spare, 0))), none] [] (srl σ []) (fun r σ' => r = some (.inl (sG (fun k => (σ r_Elements_spare) (k)) (sS n D (D + 1)).toNat)) ∧ σ' = σ)
  have hI2 := hI
  obtain ⟨hO, hn, hD, hp, hm, hst, hln⟩ := hI2
  obtain ⟨⟨hO1, hO2⟩, ⟨hO3, hO4⟩, hO5, hO6, hO7, hO8⟩ := id hO
  have hAb := sS_b (k := D + 1) hO
  have h8 := hst 8 (by omega) (by omega)
  rw [sS_8 hO] at h8
  have hmn : min (σ r_Shape0_start 8) 364 = sS n D (D + 1) := by rw [h8]; exact Int.min_eq_left (by omega)
  have L_15 : ∀ (N : Nat) (k : Int), (-1 ≤ k ∧ k < sS n D (D + 1)) → (∀ j : Int, k < j → j < sS n D (D + 1) → σ r_Elements_spare j = 0) → (k + 1).toNat < N → en_wp k_X5_greatestIn 15 [some (.inr (.inr (r_Shape0, 0))), some (.inr (.inr (r_Elements_spare, 0))), some (.inl k)] [] (srl σ []) (fun r σ' => r = some (.inl (sG (fun k => (σ r_Elements_spare) (k)) (sS n D (D + 1)).toNat)) ∧ σ' = σ) := by
    intro N
    induction N with
    | zero => intro k; intros; omega
    | succ N ih_15 =>
      intro k hk hz hN_15
      refine wp_run 1 (pc' := 16) (ls' := [some (.inr (.inr (r_Shape0, 0))), some (.inr (.inr (r_Elements_spare, 0))), some (.inl k)]) (st' := [.inl k]) (σ' := srl σ []) rfl ?_
      refine wp_if_lt rfl (by omega) (fun h_1 => ?_) (fun h_1 => ?_)
      · show en_wp k_X5_greatestIn 33 [some (.inr (.inr (r_Shape0, 0))), some (.inr (.inr (r_Elements_spare, 0))), some (.inl k)] [] (srl σ []) _
        refine wp_run 1 (pc' := 34) (ls' := [some (.inr (.inr (r_Shape0, 0))), some (.inr (.inr (r_Elements_spare, 0))), some (.inl k)]) (st' := [.inl (-1)]) (σ' := srl σ []) rfl ?_
        exact wp_iret rfl ⟨(by rw [sG_none (f := (fun k => σ r_Elements_spare (k))) _ (fun j h1 h2 => hz j (by omega) (by omega))]), rfl⟩
      · show en_wp k_X5_greatestIn 19 [some (.inr (.inr (r_Shape0, 0))), some (.inr (.inr (r_Elements_spare, 0))), some (.inl k)] [] (srl σ []) _
        refine wp_run 2 (pc' := 21) (ls' := [some (.inr (.inr (r_Shape0, 0))), some (.inr (.inr (r_Elements_spare, 0))), some (.inl k)]) (st' := [.inl k, .inr (.inr (r_Elements_spare, 0))]) (σ' := srl σ []) rfl ?_
        refine wp_iald0 rfl rfl (by omega) ?_
        show en_wp k_X5_greatestIn 22 [some (.inr (.inr (r_Shape0, 0))), some (.inr (.inr (r_Elements_spare, 0))), some (.inl k)] [.inl (σ r_Elements_spare k)] (srl σ []) _
        have hx := hE (k)
        refine wp_if_eq rfl (by omega) (fun h_2 => ?_) (fun h_2 => ?_)
        · show en_wp k_X5_greatestIn 27 [some (.inr (.inr (r_Shape0, 0))), some (.inr (.inr (r_Elements_spare, 0))), some (.inl k)] [] (srl σ []) _
          refine wp_run 2 (pc' := 15) (ls' := [some (.inr (.inr (r_Shape0, 0))), some (.inr (.inr (r_Elements_spare, 0))), some (.inl (k + (-1)))]) (st' := []) (σ' := srl σ []) rfl ?_
          exact ih_15 (k + (-1)) (by omega) (by intro j h1 h2; rcases Int.lt_or_eq_of_le (show k ≤ j by omega) with h9 | h9 <;> first | exact hz j h9 h2 | (rw [← h9]; assumption)) (by omega)
        · show en_wp k_X5_greatestIn 25 [some (.inr (.inr (r_Shape0, 0))), some (.inr (.inr (r_Elements_spare, 0))), some (.inl k)] [] (srl σ []) _
          refine wp_run 1 (pc' := 26) (ls' := [some (.inr (.inr (r_Shape0, 0))), some (.inr (.inr (r_Elements_spare, 0))), some (.inl k)]) (st' := [.inl k]) (σ' := srl σ []) rfl ?_
          exact wp_iret rfl ⟨(by rw [sG_top (f := (fun k => σ r_Elements_spare (k))) (k := k) (by omega) (by assumption) _ (by omega) (fun j h1 h2 => hz j h1 (by omega))]), rfl⟩
  refine wp_run 3 (pc' := 6) (ls' := [some (.inr (.inr (r_Shape0, 0))), some (.inr (.inr (r_Elements_spare, 0))), none]) (st' := [.inl 8, .inr (.inr (r_Shape0_start, 0))]) (σ' := srl σ []) rfl ?_
  refine wp_iald0 rfl rfl (by omega) ?_
  show en_wp k_X5_greatestIn 7 [some (.inr (.inr (r_Shape0, 0))), some (.inr (.inr (r_Elements_spare, 0))), none] [.inl (σ r_Shape0_start 8)] (srl σ []) _
  refine wp_run 2 (pc' := 9) (ls' := [some (.inr (.inr (r_Shape0, 0))), some (.inr (.inr (r_Elements_spare, 0))), none]) (st' := [.inl 364, .inl (σ r_Shape0_start 8)]) (σ' := srl σ []) rfl ?_
  refine wp_min rfl rfl (by omega) (by omega) ?_
  show en_wp k_X5_greatestIn 12 [some (.inr (.inr (r_Shape0, 0))), some (.inr (.inr (r_Elements_spare, 0))), none] [.inl (min (σ r_Shape0_start 8) 364)] (srl σ []) _
  refine wp_run 3 (pc' := 15) (ls' := [some (.inr (.inr (r_Shape0, 0))), some (.inr (.inr (r_Elements_spare, 0))), some (.inl ((min (σ r_Shape0_start 8) 364) - 1))]) (st' := []) (σ' := srl σ []) rfl ?_
  exact L_15 _ ((min (σ r_Shape0_start 8) 364) - 1) (by omega) (by intro j h1 h2; omega) (Nat.lt_succ_self _)
theorem ct_X5_greatestIn_Shape0_Elements_product (σ : en_m) (n : Int) (D : Int) (p : Int) (hI : cS0 σ n D p) (hE : R97 ((σ r_Elements_product))) : en_fn z_X5_greatestIn [.inr (.inr (r_Shape0, 0)), .inr (.inr (r_Elements_product, 0))] σ (.inl (sG (fun k => (σ r_Elements_product) (k)) (sS n D (D + 1)).toNat)) := by
  show en_wp k_X5_greatestIn 0 [some (.inr (.inr (r_Shape0, 0))), some (.inr (.inr (r_Elements_product, 0))), none] [] (srl σ []) (fun r σ' => r = some (.inl (sG (fun k => (σ r_Elements_product) (k)) (sS n D (D + 1)).toNat)) ∧ σ' = σ)
  have hI2 := hI
  obtain ⟨hO, hn, hD, hp, hm, hst, hln⟩ := hI2
  obtain ⟨⟨hO1, hO2⟩, ⟨hO3, hO4⟩, hO5, hO6, hO7, hO8⟩ := id hO
  have hAb := sS_b (k := D + 1) hO
  have h8 := hst 8 (by omega) (by omega)
  rw [sS_8 hO] at h8
  have hmn : min (σ r_Shape0_start 8) 364 = sS n D (D + 1) := by rw [h8]; exact Int.min_eq_left (by omega)
  have L_15 : ∀ (N : Nat) (k : Int), (-1 ≤ k ∧ k < sS n D (D + 1)) → (∀ j : Int, k < j → j < sS n D (D + 1) → σ r_Elements_product j = 0) → (k + 1).toNat < N → en_wp k_X5_greatestIn 15 [some (.inr (.inr (r_Shape0, 0))), some (.inr (.inr (r_Elements_product, 0))), some (.inl k)] [] (srl σ []) (fun r σ' => r = some (.inl (sG (fun k => (σ r_Elements_product) (k)) (sS n D (D + 1)).toNat)) ∧ σ' = σ) := by
    intro N
    induction N with
    | zero => intro k; intros; omega
    | succ N ih_15 =>
      intro k hk hz hN_15
      refine wp_run 1 (pc' := 16) (ls' := [some (.inr (.inr (r_Shape0, 0))), some (.inr (.inr (r_Elements_product, 0))), some (.inl k)]) (st' := [.inl k]) (σ' := srl σ []) rfl ?_
      refine wp_if_lt rfl (by omega) (fun h_1 => ?_) (fun h_1 => ?_)
      · show en_wp k_X5_greatestIn 33 [some (.inr (.inr (r_Shape0, 0))), some (.inr (.inr (r_Elements_product, 0))), some (.inl k)] [] (srl σ []) _
        refine wp_run 1 (pc' := 34) (ls' := [some (.inr (.inr (r_Shape0, 0))), some (.inr (.inr (r_Elements_product, 0))), some (.inl k)]) (st' := [.inl (-1)]) (σ' := srl σ []) rfl ?_
        exact wp_iret rfl ⟨(by rw [sG_none (f := (fun k => σ r_Elements_product (k))) _ (fun j h1 h2 => hz j (by omega) (by omega))]), rfl⟩
      · show en_wp k_X5_greatestIn 19 [some (.inr (.inr (r_Shape0, 0))), some (.inr (.inr (r_Elements_product, 0))), some (.inl k)] [] (srl σ []) _
        refine wp_run 2 (pc' := 21) (ls' := [some (.inr (.inr (r_Shape0, 0))), some (.inr (.inr (r_Elements_product, 0))), some (.inl k)]) (st' := [.inl k, .inr (.inr (r_Elements_product, 0))]) (σ' := srl σ []) rfl ?_
        refine wp_iald0 rfl rfl (by omega) ?_
        show en_wp k_X5_greatestIn 22 [some (.inr (.inr (r_Shape0, 0))), some (.inr (.inr (r_Elements_product, 0))), some (.inl k)] [.inl (σ r_Elements_product k)] (srl σ []) _
        have hx := hE (k)
        refine wp_if_eq rfl (by omega) (fun h_2 => ?_) (fun h_2 => ?_)
        · show en_wp k_X5_greatestIn 27 [some (.inr (.inr (r_Shape0, 0))), some (.inr (.inr (r_Elements_product, 0))), some (.inl k)] [] (srl σ []) _
          refine wp_run 2 (pc' := 15) (ls' := [some (.inr (.inr (r_Shape0, 0))), some (.inr (.inr (r_Elements_product, 0))), some (.inl (k + (-1)))]) (st' := []) (σ' := srl σ []) rfl ?_
          exact ih_15 (k + (-1)) (by omega) (by intro j h1 h2; rcases Int.lt_or_eq_of_le (show k ≤ j by omega) with h9 | h9 <;> first | exact hz j h9 h2 | (rw [← h9]; assumption)) (by omega)
        · show en_wp k_X5_greatestIn 25 [some (.inr (.inr (r_Shape0, 0))), some (.inr (.inr (r_Elements_product, 0))), some (.inl k)] [] (srl σ []) _
          refine wp_run 1 (pc' := 26) (ls' := [some (.inr (.inr (r_Shape0, 0))), some (.inr (.inr (r_Elements_product, 0))), some (.inl k)]) (st' := [.inl k]) (σ' := srl σ []) rfl ?_
          exact wp_iret rfl ⟨(by rw [sG_top (f := (fun k => σ r_Elements_product (k))) (k := k) (by omega) (by assumption) _ (by omega) (fun j h1 h2 => hz j h1 (by omega))]), rfl⟩
  refine wp_run 3 (pc' := 6) (ls' := [some (.inr (.inr (r_Shape0, 0))), some (.inr (.inr (r_Elements_product, 0))), none]) (st' := [.inl 8, .inr (.inr (r_Shape0_start, 0))]) (σ' := srl σ []) rfl ?_
  refine wp_iald0 rfl rfl (by omega) ?_
  show en_wp k_X5_greatestIn 7 [some (.inr (.inr (r_Shape0, 0))), some (.inr (.inr (r_Elements_product, 0))), none] [.inl (σ r_Shape0_start 8)] (srl σ []) _
  refine wp_run 2 (pc' := 9) (ls' := [some (.inr (.inr (r_Shape0, 0))), some (.inr (.inr (r_Elements_product, 0))), none]) (st' := [.inl 364, .inl (σ r_Shape0_start 8)]) (σ' := srl σ []) rfl ?_
  refine wp_min rfl rfl (by omega) (by omega) ?_
  show en_wp k_X5_greatestIn 12 [some (.inr (.inr (r_Shape0, 0))), some (.inr (.inr (r_Elements_product, 0))), none] [.inl (min (σ r_Shape0_start 8) 364)] (srl σ []) _
  refine wp_run 3 (pc' := 15) (ls' := [some (.inr (.inr (r_Shape0, 0))), some (.inr (.inr (r_Elements_product, 0))), some (.inl ((min (σ r_Shape0_start 8) 364) - 1))]) (st' := []) (σ' := srl σ []) rfl ?_
  exact L_15 _ ((min (σ r_Shape0_start 8) 364) - 1) (by omega) (by intro j h1 h2; omega) (Nat.lt_succ_self _)
theorem ct_X5_greatestIn_Shape0_Elements_factor (σ : en_m) (n : Int) (D : Int) (p : Int) (hI : cS0 σ n D p) (hE : R97 ((σ r_Elements_factor))) : en_fn z_X5_greatestIn [.inr (.inr (r_Shape0, 0)), .inr (.inr (r_Elements_factor, 0))] σ (.inl (sG (fun k => (σ r_Elements_factor) (k)) (sS n D (D + 1)).toNat)) := by
  show en_wp k_X5_greatestIn 0 [some (.inr (.inr (r_Shape0, 0))), some (.inr (.inr (r_Elements_factor, 0))), none] [] (srl σ []) (fun r σ' => r = some (.inl (sG (fun k => (σ r_Elements_factor) (k)) (sS n D (D + 1)).toNat)) ∧ σ' = σ)
  have hI2 := hI
  obtain ⟨hO, hn, hD, hp, hm, hst, hln⟩ := hI2
  obtain ⟨⟨hO1, hO2⟩, ⟨hO3, hO4⟩, hO5, hO6, hO7, hO8⟩ := id hO
  have hAb := sS_b (k := D + 1) hO
  have h8 := hst 8 (by omega) (by omega)
  rw [sS_8 hO] at h8
  have hmn : min (σ r_Shape0_start 8) 364 = sS n D (D + 1) := by rw [h8]; exact Int.min_eq_left (by omega)
  have L_15 : ∀ (N : Nat) (k : Int), (-1 ≤ k ∧ k < sS n D (D + 1)) → (∀ j : Int, k < j → j < sS n D (D + 1) → σ r_Elements_factor j = 0) → (k + 1).toNat < N → en_wp k_X5_greatestIn 15 [some (.inr (.inr (r_Shape0, 0))), some (.inr (.inr (r_Elements_factor, 0))), some (.inl k)] [] (srl σ []) (fun r σ' => r = some (.inl (sG (fun k => (σ r_Elements_factor) (k)) (sS n D (D + 1)).toNat)) ∧ σ' = σ) := by
    intro N
    induction N with
    | zero => intro k; intros; omega
    | succ N ih_15 =>
      intro k hk hz hN_15
      refine wp_run 1 (pc' := 16) (ls' := [some (.inr (.inr (r_Shape0, 0))), some (.inr (.inr (r_Elements_factor, 0))), some (.inl k)]) (st' := [.inl k]) (σ' := srl σ []) rfl ?_
      refine wp_if_lt rfl (by omega) (fun h_1 => ?_) (fun h_1 => ?_)
      · show en_wp k_X5_greatestIn 33 [some (.inr (.inr (r_Shape0, 0))), some (.inr (.inr (r_Elements_factor, 0))), some (.inl k)] [] (srl σ []) _
        refine wp_run 1 (pc' := 34) (ls' := [some (.inr (.inr (r_Shape0, 0))), some (.inr (.inr (r_Elements_factor, 0))), some (.inl k)]) (st' := [.inl (-1)]) (σ' := srl σ []) rfl ?_
        exact wp_iret rfl ⟨(by rw [sG_none (f := (fun k => σ r_Elements_factor (k))) _ (fun j h1 h2 => hz j (by omega) (by omega))]), rfl⟩
      · show en_wp k_X5_greatestIn 19 [some (.inr (.inr (r_Shape0, 0))), some (.inr (.inr (r_Elements_factor, 0))), some (.inl k)] [] (srl σ []) _
        refine wp_run 2 (pc' := 21) (ls' := [some (.inr (.inr (r_Shape0, 0))), some (.inr (.inr (r_Elements_factor, 0))), some (.inl k)]) (st' := [.inl k, .inr (.inr (r_Elements_factor, 0))]) (σ' := srl σ []) rfl ?_
        refine wp_iald0 rfl rfl (by omega) ?_
        show en_wp k_X5_greatestIn 22 [some (.inr (.inr (r_Shape0, 0))), some (.inr (.inr (r_Elements_factor, 0))), some (.inl k)] [.inl (σ r_Elements_factor k)] (srl σ []) _
        have hx := hE (k)
        refine wp_if_eq rfl (by omega) (fun h_2 => ?_) (fun h_2 => ?_)
        · show en_wp k_X5_greatestIn 27 [some (.inr (.inr (r_Shape0, 0))), some (.inr (.inr (r_Elements_factor, 0))), some (.inl k)] [] (srl σ []) _
          refine wp_run 2 (pc' := 15) (ls' := [some (.inr (.inr (r_Shape0, 0))), some (.inr (.inr (r_Elements_factor, 0))), some (.inl (k + (-1)))]) (st' := []) (σ' := srl σ []) rfl ?_
          exact ih_15 (k + (-1)) (by omega) (by intro j h1 h2; rcases Int.lt_or_eq_of_le (show k ≤ j by omega) with h9 | h9 <;> first | exact hz j h9 h2 | (rw [← h9]; assumption)) (by omega)
        · show en_wp k_X5_greatestIn 25 [some (.inr (.inr (r_Shape0, 0))), some (.inr (.inr (r_Elements_factor, 0))), some (.inl k)] [] (srl σ []) _
          refine wp_run 1 (pc' := 26) (ls' := [some (.inr (.inr (r_Shape0, 0))), some (.inr (.inr (r_Elements_factor, 0))), some (.inl k)]) (st' := [.inl k]) (σ' := srl σ []) rfl ?_
          exact wp_iret rfl ⟨(by rw [sG_top (f := (fun k => σ r_Elements_factor (k))) (k := k) (by omega) (by assumption) _ (by omega) (fun j h1 h2 => hz j h1 (by omega))]), rfl⟩
  refine wp_run 3 (pc' := 6) (ls' := [some (.inr (.inr (r_Shape0, 0))), some (.inr (.inr (r_Elements_factor, 0))), none]) (st' := [.inl 8, .inr (.inr (r_Shape0_start, 0))]) (σ' := srl σ []) rfl ?_
  refine wp_iald0 rfl rfl (by omega) ?_
  show en_wp k_X5_greatestIn 7 [some (.inr (.inr (r_Shape0, 0))), some (.inr (.inr (r_Elements_factor, 0))), none] [.inl (σ r_Shape0_start 8)] (srl σ []) _
  refine wp_run 2 (pc' := 9) (ls' := [some (.inr (.inr (r_Shape0, 0))), some (.inr (.inr (r_Elements_factor, 0))), none]) (st' := [.inl 364, .inl (σ r_Shape0_start 8)]) (σ' := srl σ []) rfl ?_
  refine wp_min rfl rfl (by omega) (by omega) ?_
  show en_wp k_X5_greatestIn 12 [some (.inr (.inr (r_Shape0, 0))), some (.inr (.inr (r_Elements_factor, 0))), none] [.inl (min (σ r_Shape0_start 8) 364)] (srl σ []) _
  refine wp_run 3 (pc' := 15) (ls' := [some (.inr (.inr (r_Shape0, 0))), some (.inr (.inr (r_Elements_factor, 0))), some (.inl ((min (σ r_Shape0_start 8) 364) - 1))]) (st' := []) (σ' := srl σ []) rfl ?_
  exact L_15 _ ((min (σ r_Shape0_start 8) 364) - 1) (by omega) (by intro j h1 h2; omega) (Nat.lt_succ_self _)
theorem ct_J7_fill_53178_Elements_product (σ : en_m) (v : Int) : en_ct z_J7_fill_53178 [.inr (.inr (r_Elements_product, 0)), .inl v] σ (fun r σ' => r = none ∧ σ' = srl σ [(r_Elements_product, (seg (σ r_Elements_product) 0 364 (fun _ => v)))]) := by
  show en_wp k_J7_fill_53178 0 [some (.inr (.inr (r_Elements_product, 0))), some (.inl v), none, none] [] (srl σ []) (fun r σ' => r = none ∧ σ' = srl σ [(r_Elements_product, (seg (σ r_Elements_product) 0 364 (fun _ => v)))])
  have L_5 : ∀ (N : Nat) (k : Int) (X : Int → Int), (0 ≤ k ∧ k ≤ 364) → (X = seg (σ r_Elements_product) 0 k (fun _ => v)) → (364 - k).toNat < N → en_wp k_J7_fill_53178 5 [some (.inr (.inr (r_Elements_product, 0))), some (.inl v), some (.inl k), some (.inl 364)] [] (srl σ [(r_Elements_product, X)]) (fun r σ' => r = none ∧ σ' = srl σ [(r_Elements_product, (seg (σ r_Elements_product) 0 364 (fun _ => v)))]) := by
    intro N
    induction N with
    | zero => intro k X; intros; omega
    | succ N ih_5 =>
      intro k X hk hX hN_5
      refine wp_run 2 (pc' := 7) (ls' := [some (.inr (.inr (r_Elements_product, 0))), some (.inl v), some (.inl k), some (.inl 364)]) (st' := [.inl 364, .inl k]) (σ' := srl σ [(r_Elements_product, X)]) rfl ?_
      refine wp_ic_ge rfl (by omega) (by omega) (fun h_1 => ?_) (fun h_1 => ?_)
      · show en_wp k_J7_fill_53178 20 [some (.inr (.inr (r_Elements_product, 0))), some (.inl v), some (.inl k), some (.inl 364)] [] (srl σ [(r_Elements_product, X)]) _
        exact wp_vret rfl ⟨rfl, (by rw [hX, show k = 364 by omega])⟩
      · show en_wp k_J7_fill_53178 10 [some (.inr (.inr (r_Elements_product, 0))), some (.inl v), some (.inl k), some (.inl 364)] [] (srl σ [(r_Elements_product, X)]) _
        refine wp_run 3 (pc' := 13) (ls' := [some (.inr (.inr (r_Elements_product, 0))), some (.inl v), some (.inl k), some (.inl 364)]) (st' := [.inl v, .inl k, .inr (.inr (r_Elements_product, 0))]) (σ' := srl σ [(r_Elements_product, X)]) rfl ?_
        refine wp_iast0 rfl rfl (by omega) (wp_wr (l2 := [(r_Elements_product, (up X k v))]) rfl ?_)
        show en_wp k_J7_fill_53178 14 [some (.inr (.inr (r_Elements_product, 0))), some (.inl v), some (.inl k), some (.inl 364)] [] (srl σ [(r_Elements_product, (up X k v))]) _
        refine wp_run 2 (pc' := 5) (ls' := [some (.inr (.inr (r_Elements_product, 0))), some (.inl v), some (.inl (k + 1)), some (.inl 364)]) (st' := []) (σ' := srl σ [(r_Elements_product, (up X k v))]) rfl ?_
        exact ih_5 (k + 1) (up X k v) (by omega) (by rw [hX]; exact seg_up0 hk.1 rfl) (by omega)
  refine wp_run 5 (pc' := 5) (ls' := [some (.inr (.inr (r_Elements_product, 0))), some (.inl v), some (.inl 0), some (.inl 364)]) (st' := []) (σ' := srl σ []) rfl ?_
  refine wp_mem (srl_eq (l' := [(r_Elements_product, (σ r_Elements_product))]) trivial (And.intro rfl trivial)) ?_
  exact L_5 _ 0 (σ r_Elements_product) (by omega) (seg_0 _ _ _).symm (Nat.lt_succ_self _)
theorem ct_J7_fill_53178_Elements_factor (σ : en_m) (v : Int) : en_ct z_J7_fill_53178 [.inr (.inr (r_Elements_factor, 0)), .inl v] σ (fun r σ' => r = none ∧ σ' = srl σ [(r_Elements_factor, (seg (σ r_Elements_factor) 0 364 (fun _ => v)))]) := by
  show en_wp k_J7_fill_53178 0 [some (.inr (.inr (r_Elements_factor, 0))), some (.inl v), none, none] [] (srl σ []) (fun r σ' => r = none ∧ σ' = srl σ [(r_Elements_factor, (seg (σ r_Elements_factor) 0 364 (fun _ => v)))])
  have L_5 : ∀ (N : Nat) (k : Int) (X : Int → Int), (0 ≤ k ∧ k ≤ 364) → (X = seg (σ r_Elements_factor) 0 k (fun _ => v)) → (364 - k).toNat < N → en_wp k_J7_fill_53178 5 [some (.inr (.inr (r_Elements_factor, 0))), some (.inl v), some (.inl k), some (.inl 364)] [] (srl σ [(r_Elements_factor, X)]) (fun r σ' => r = none ∧ σ' = srl σ [(r_Elements_factor, (seg (σ r_Elements_factor) 0 364 (fun _ => v)))]) := by
    intro N
    induction N with
    | zero => intro k X; intros; omega
    | succ N ih_5 =>
      intro k X hk hX hN_5
      refine wp_run 2 (pc' := 7) (ls' := [some (.inr (.inr (r_Elements_factor, 0))), some (.inl v), some (.inl k), some (.inl 364)]) (st' := [.inl 364, .inl k]) (σ' := srl σ [(r_Elements_factor, X)]) rfl ?_
      refine wp_ic_ge rfl (by omega) (by omega) (fun h_1 => ?_) (fun h_1 => ?_)
      · show en_wp k_J7_fill_53178 20 [some (.inr (.inr (r_Elements_factor, 0))), some (.inl v), some (.inl k), some (.inl 364)] [] (srl σ [(r_Elements_factor, X)]) _
        exact wp_vret rfl ⟨rfl, (by rw [hX, show k = 364 by omega])⟩
      · show en_wp k_J7_fill_53178 10 [some (.inr (.inr (r_Elements_factor, 0))), some (.inl v), some (.inl k), some (.inl 364)] [] (srl σ [(r_Elements_factor, X)]) _
        refine wp_run 3 (pc' := 13) (ls' := [some (.inr (.inr (r_Elements_factor, 0))), some (.inl v), some (.inl k), some (.inl 364)]) (st' := [.inl v, .inl k, .inr (.inr (r_Elements_factor, 0))]) (σ' := srl σ [(r_Elements_factor, X)]) rfl ?_
        refine wp_iast0 rfl rfl (by omega) (wp_wr (l2 := [(r_Elements_factor, (up X k v))]) rfl ?_)
        show en_wp k_J7_fill_53178 14 [some (.inr (.inr (r_Elements_factor, 0))), some (.inl v), some (.inl k), some (.inl 364)] [] (srl σ [(r_Elements_factor, (up X k v))]) _
        refine wp_run 2 (pc' := 5) (ls' := [some (.inr (.inr (r_Elements_factor, 0))), some (.inl v), some (.inl (k + 1)), some (.inl 364)]) (st' := []) (σ' := srl σ [(r_Elements_factor, (up X k v))]) rfl ?_
        exact ih_5 (k + 1) (up X k v) (by omega) (by rw [hX]; exact seg_up0 hk.1 rfl) (by omega)
  refine wp_run 5 (pc' := 5) (ls' := [some (.inr (.inr (r_Elements_factor, 0))), some (.inl v), some (.inl 0), some (.inl 364)]) (st' := []) (σ' := srl σ []) rfl ?_
  refine wp_mem (srl_eq (l' := [(r_Elements_factor, (σ r_Elements_factor))]) trivial (And.intro rfl trivial)) ?_
  exact L_5 _ 0 (σ r_Elements_factor) (by omega) (seg_0 _ _ _).symm (Nat.lt_succ_self _)
theorem ct_X5_topOf_Shape0_Elements_spare (σ : en_m) (n : Int) (D : Int) (p : Int) (hI : cS0 σ n D p) (hE : R97 ((σ r_Elements_spare))) : en_fn z_X5_topOf [.inr (.inr (r_Shape0, 0)), .inr (.inr (r_Elements_spare, 0))] σ (.inl (if (sG (fun k => (σ r_Elements_spare) k) (sS n D (D + 1)).toNat) = -1 then -1 else sL n D (sG (fun k => (σ r_Elements_spare) k) (sS n D (D + 1)).toNat))) := by
  show en_wp k_X5_topOf 0 [some (.inr (.inr (r_Shape0, 0))), some (.inr (.inr (r_Elements_spare, 0))), none] [] (srl σ []) (fun r σ' => r = some (.inl (if (sG (fun k => (σ r_Elements_spare) k) (sS n D (D + 1)).toNat) = -1 then -1 else sL n D (sG (fun k => (σ r_Elements_spare) k) (sS n D (D + 1)).toNat))) ∧ σ' = σ)
  have hI2 := hI
  obtain ⟨hO, hn, hD, hp, hm, hst, hln⟩ := hI2
  obtain ⟨⟨hO1, hO2⟩, ⟨hO3, hO4⟩, hO5, hO6, hO7, hO8⟩ := id hO
  have hAb := sS_b (k := D + 1) hO
  refine wp_run 2 (pc' := 2) (ls' := [some (.inr (.inr (r_Shape0, 0))), some (.inr (.inr (r_Elements_spare, 0))), none]) (st' := [.inr (.inr (r_Elements_spare, 0)), .inr (.inr (r_Shape0, 0))]) (σ' := srl σ []) rfl ?_
  refine wp_fnv (v := .inl (sG (fun k => (σ r_Elements_spare) (k)) (sS n D (D + 1)).toNat)) rfl rfl rfl rfl (ct_X5_greatestIn_Shape0_Elements_spare σ n D p hI hE) ?_
  show en_wp k_X5_topOf 5 [some (.inr (.inr (r_Shape0, 0))), some (.inr (.inr (r_Elements_spare, 0))), none] [.inl (sG (fun k => (σ r_Elements_spare) (k)) (sS n D (D + 1)).toNat)] (srl σ []) _
  have q_1 : -1 ≤ sG (fun k => (σ r_Elements_spare) (k)) (sS n D (D + 1)).toNat ∧ sG (fun k => (σ r_Elements_spare) (k)) (sS n D (D + 1)).toNat < sS n D (D + 1) := sG_bb hO
  refine wp_run 3 (pc' := 8) (ls' := [some (.inr (.inr (r_Shape0, 0))), some (.inr (.inr (r_Elements_spare, 0))), some (.inl (sG (fun k => (σ r_Elements_spare) (k)) (sS n D (D + 1)).toNat))]) (st' := [.inl (-1), .inl (sG (fun k => (σ r_Elements_spare) (k)) (sS n D (D + 1)).toNat)]) (σ' := srl σ []) rfl ?_
  refine wp_ic_ne rfl (by omega) (by omega) (fun h_2 => ?_) (fun h_2 => ?_)
  · show en_wp k_X5_topOf 15 [some (.inr (.inr (r_Shape0, 0))), some (.inr (.inr (r_Elements_spare, 0))), some (.inl (sG (fun k => (σ r_Elements_spare) (k)) (sS n D (D + 1)).toNat))] [] (srl σ []) _
    refine wp_run 2 (pc' := 17) (ls' := [some (.inr (.inr (r_Shape0, 0))), some (.inr (.inr (r_Elements_spare, 0))), some (.inl (sG (fun k => (σ r_Elements_spare) (k)) (sS n D (D + 1)).toNat))]) (st' := [.inl (sG (fun k => (σ r_Elements_spare) (k)) (sS n D (D + 1)).toNat), .inr (.inr (r_Shape0, 0))]) (σ' := srl σ []) rfl ?_
    refine wp_fnv (v := .inl (sL n D (sG (fun k => (σ r_Elements_spare) (k)) (sS n D (D + 1)).toNat))) rfl rfl rfl rfl (ct_X5_lengthAt_Shape0 σ n D p (sG (fun k => (σ r_Elements_spare) (k)) (sS n D (D + 1)).toNat) hI (by omega)) ?_
    show en_wp k_X5_topOf 20 [some (.inr (.inr (r_Shape0, 0))), some (.inr (.inr (r_Elements_spare, 0))), some (.inl (sG (fun k => (σ r_Elements_spare) (k)) (sS n D (D + 1)).toNat))] [.inl (sL n D (sG (fun k => (σ r_Elements_spare) (k)) (sS n D (D + 1)).toNat))] (srl σ []) _
    have q_3 : 0 ≤ sL n D (sG (fun k => (σ r_Elements_spare) (k)) (sS n D (D + 1)).toNat) ∧ sL n D (sG (fun k => (σ r_Elements_spare) (k)) (sS n D (D + 1)).toNat) ≤ 7 := sL_b _ _ _
    exact wp_iret rfl ⟨(by repeat (first | rfl | rw [if_pos (by omega)] | rw [if_neg (by omega)])), rfl⟩
  · show en_wp k_X5_topOf 11 [some (.inr (.inr (r_Shape0, 0))), some (.inr (.inr (r_Elements_spare, 0))), some (.inl (sG (fun k => (σ r_Elements_spare) (k)) (sS n D (D + 1)).toNat))] [] (srl σ []) _
    refine wp_run 2 (pc' := 20) (ls' := [some (.inr (.inr (r_Shape0, 0))), some (.inr (.inr (r_Elements_spare, 0))), some (.inl (sG (fun k => (σ r_Elements_spare) (k)) (sS n D (D + 1)).toNat))]) (st' := [.inl (-1)]) (σ' := srl σ []) rfl ?_
    exact wp_iret rfl ⟨(by repeat (first | rfl | rw [if_pos (by omega)] | rw [if_neg (by omega)])), rfl⟩
theorem ct_X5_topOf_Shape0_Elements_product (σ : en_m) (n : Int) (D : Int) (p : Int) (hI : cS0 σ n D p) (hE : R97 ((σ r_Elements_product))) : en_fn z_X5_topOf [.inr (.inr (r_Shape0, 0)), .inr (.inr (r_Elements_product, 0))] σ (.inl (if (sG (fun k => (σ r_Elements_product) k) (sS n D (D + 1)).toNat) = -1 then -1 else sL n D (sG (fun k => (σ r_Elements_product) k) (sS n D (D + 1)).toNat))) := by
  show en_wp k_X5_topOf 0 [some (.inr (.inr (r_Shape0, 0))), some (.inr (.inr (r_Elements_product, 0))), none] [] (srl σ []) (fun r σ' => r = some (.inl (if (sG (fun k => (σ r_Elements_product) k) (sS n D (D + 1)).toNat) = -1 then -1 else sL n D (sG (fun k => (σ r_Elements_product) k) (sS n D (D + 1)).toNat))) ∧ σ' = σ)
  have hI2 := hI
  obtain ⟨hO, hn, hD, hp, hm, hst, hln⟩ := hI2
  obtain ⟨⟨hO1, hO2⟩, ⟨hO3, hO4⟩, hO5, hO6, hO7, hO8⟩ := id hO
  have hAb := sS_b (k := D + 1) hO
  refine wp_run 2 (pc' := 2) (ls' := [some (.inr (.inr (r_Shape0, 0))), some (.inr (.inr (r_Elements_product, 0))), none]) (st' := [.inr (.inr (r_Elements_product, 0)), .inr (.inr (r_Shape0, 0))]) (σ' := srl σ []) rfl ?_
  refine wp_fnv (v := .inl (sG (fun k => (σ r_Elements_product) (k)) (sS n D (D + 1)).toNat)) rfl rfl rfl rfl (ct_X5_greatestIn_Shape0_Elements_product σ n D p hI hE) ?_
  show en_wp k_X5_topOf 5 [some (.inr (.inr (r_Shape0, 0))), some (.inr (.inr (r_Elements_product, 0))), none] [.inl (sG (fun k => (σ r_Elements_product) (k)) (sS n D (D + 1)).toNat)] (srl σ []) _
  have q_1 : -1 ≤ sG (fun k => (σ r_Elements_product) (k)) (sS n D (D + 1)).toNat ∧ sG (fun k => (σ r_Elements_product) (k)) (sS n D (D + 1)).toNat < sS n D (D + 1) := sG_bb hO
  refine wp_run 3 (pc' := 8) (ls' := [some (.inr (.inr (r_Shape0, 0))), some (.inr (.inr (r_Elements_product, 0))), some (.inl (sG (fun k => (σ r_Elements_product) (k)) (sS n D (D + 1)).toNat))]) (st' := [.inl (-1), .inl (sG (fun k => (σ r_Elements_product) (k)) (sS n D (D + 1)).toNat)]) (σ' := srl σ []) rfl ?_
  refine wp_ic_ne rfl (by omega) (by omega) (fun h_2 => ?_) (fun h_2 => ?_)
  · show en_wp k_X5_topOf 15 [some (.inr (.inr (r_Shape0, 0))), some (.inr (.inr (r_Elements_product, 0))), some (.inl (sG (fun k => (σ r_Elements_product) (k)) (sS n D (D + 1)).toNat))] [] (srl σ []) _
    refine wp_run 2 (pc' := 17) (ls' := [some (.inr (.inr (r_Shape0, 0))), some (.inr (.inr (r_Elements_product, 0))), some (.inl (sG (fun k => (σ r_Elements_product) (k)) (sS n D (D + 1)).toNat))]) (st' := [.inl (sG (fun k => (σ r_Elements_product) (k)) (sS n D (D + 1)).toNat), .inr (.inr (r_Shape0, 0))]) (σ' := srl σ []) rfl ?_
    refine wp_fnv (v := .inl (sL n D (sG (fun k => (σ r_Elements_product) (k)) (sS n D (D + 1)).toNat))) rfl rfl rfl rfl (ct_X5_lengthAt_Shape0 σ n D p (sG (fun k => (σ r_Elements_product) (k)) (sS n D (D + 1)).toNat) hI (by omega)) ?_
    show en_wp k_X5_topOf 20 [some (.inr (.inr (r_Shape0, 0))), some (.inr (.inr (r_Elements_product, 0))), some (.inl (sG (fun k => (σ r_Elements_product) (k)) (sS n D (D + 1)).toNat))] [.inl (sL n D (sG (fun k => (σ r_Elements_product) (k)) (sS n D (D + 1)).toNat))] (srl σ []) _
    have q_3 : 0 ≤ sL n D (sG (fun k => (σ r_Elements_product) (k)) (sS n D (D + 1)).toNat) ∧ sL n D (sG (fun k => (σ r_Elements_product) (k)) (sS n D (D + 1)).toNat) ≤ 7 := sL_b _ _ _
    exact wp_iret rfl ⟨(by repeat (first | rfl | rw [if_pos (by omega)] | rw [if_neg (by omega)])), rfl⟩
  · show en_wp k_X5_topOf 11 [some (.inr (.inr (r_Shape0, 0))), some (.inr (.inr (r_Elements_product, 0))), some (.inl (sG (fun k => (σ r_Elements_product) (k)) (sS n D (D + 1)).toNat))] [] (srl σ []) _
    refine wp_run 2 (pc' := 20) (ls' := [some (.inr (.inr (r_Shape0, 0))), some (.inr (.inr (r_Elements_product, 0))), some (.inl (sG (fun k => (σ r_Elements_product) (k)) (sS n D (D + 1)).toNat))]) (st' := [.inl (-1)]) (σ' := srl σ []) rfl ?_
    exact wp_iret rfl ⟨(by repeat (first | rfl | rw [if_pos (by omega)] | rw [if_neg (by omega)])), rfl⟩
theorem ct_X5_topOf_Shape0_Elements_factor (σ : en_m) (n : Int) (D : Int) (p : Int) (hI : cS0 σ n D p) (hE : R97 ((σ r_Elements_factor))) : en_fn z_X5_topOf [.inr (.inr (r_Shape0, 0)), .inr (.inr (r_Elements_factor, 0))] σ (.inl (if (sG (fun k => (σ r_Elements_factor) k) (sS n D (D + 1)).toNat) = -1 then -1 else sL n D (sG (fun k => (σ r_Elements_factor) k) (sS n D (D + 1)).toNat))) := by
  show en_wp k_X5_topOf 0 [some (.inr (.inr (r_Shape0, 0))), some (.inr (.inr (r_Elements_factor, 0))), none] [] (srl σ []) (fun r σ' => r = some (.inl (if (sG (fun k => (σ r_Elements_factor) k) (sS n D (D + 1)).toNat) = -1 then -1 else sL n D (sG (fun k => (σ r_Elements_factor) k) (sS n D (D + 1)).toNat))) ∧ σ' = σ)
  have hI2 := hI
  obtain ⟨hO, hn, hD, hp, hm, hst, hln⟩ := hI2
  obtain ⟨⟨hO1, hO2⟩, ⟨hO3, hO4⟩, hO5, hO6, hO7, hO8⟩ := id hO
  have hAb := sS_b (k := D + 1) hO
  refine wp_run 2 (pc' := 2) (ls' := [some (.inr (.inr (r_Shape0, 0))), some (.inr (.inr (r_Elements_factor, 0))), none]) (st' := [.inr (.inr (r_Elements_factor, 0)), .inr (.inr (r_Shape0, 0))]) (σ' := srl σ []) rfl ?_
  refine wp_fnv (v := .inl (sG (fun k => (σ r_Elements_factor) (k)) (sS n D (D + 1)).toNat)) rfl rfl rfl rfl (ct_X5_greatestIn_Shape0_Elements_factor σ n D p hI hE) ?_
  show en_wp k_X5_topOf 5 [some (.inr (.inr (r_Shape0, 0))), some (.inr (.inr (r_Elements_factor, 0))), none] [.inl (sG (fun k => (σ r_Elements_factor) (k)) (sS n D (D + 1)).toNat)] (srl σ []) _
  have q_1 : -1 ≤ sG (fun k => (σ r_Elements_factor) (k)) (sS n D (D + 1)).toNat ∧ sG (fun k => (σ r_Elements_factor) (k)) (sS n D (D + 1)).toNat < sS n D (D + 1) := sG_bb hO
  refine wp_run 3 (pc' := 8) (ls' := [some (.inr (.inr (r_Shape0, 0))), some (.inr (.inr (r_Elements_factor, 0))), some (.inl (sG (fun k => (σ r_Elements_factor) (k)) (sS n D (D + 1)).toNat))]) (st' := [.inl (-1), .inl (sG (fun k => (σ r_Elements_factor) (k)) (sS n D (D + 1)).toNat)]) (σ' := srl σ []) rfl ?_
  refine wp_ic_ne rfl (by omega) (by omega) (fun h_2 => ?_) (fun h_2 => ?_)
  · show en_wp k_X5_topOf 15 [some (.inr (.inr (r_Shape0, 0))), some (.inr (.inr (r_Elements_factor, 0))), some (.inl (sG (fun k => (σ r_Elements_factor) (k)) (sS n D (D + 1)).toNat))] [] (srl σ []) _
    refine wp_run 2 (pc' := 17) (ls' := [some (.inr (.inr (r_Shape0, 0))), some (.inr (.inr (r_Elements_factor, 0))), some (.inl (sG (fun k => (σ r_Elements_factor) (k)) (sS n D (D + 1)).toNat))]) (st' := [.inl (sG (fun k => (σ r_Elements_factor) (k)) (sS n D (D + 1)).toNat), .inr (.inr (r_Shape0, 0))]) (σ' := srl σ []) rfl ?_
    refine wp_fnv (v := .inl (sL n D (sG (fun k => (σ r_Elements_factor) (k)) (sS n D (D + 1)).toNat))) rfl rfl rfl rfl (ct_X5_lengthAt_Shape0 σ n D p (sG (fun k => (σ r_Elements_factor) (k)) (sS n D (D + 1)).toNat) hI (by omega)) ?_
    show en_wp k_X5_topOf 20 [some (.inr (.inr (r_Shape0, 0))), some (.inr (.inr (r_Elements_factor, 0))), some (.inl (sG (fun k => (σ r_Elements_factor) (k)) (sS n D (D + 1)).toNat))] [.inl (sL n D (sG (fun k => (σ r_Elements_factor) (k)) (sS n D (D + 1)).toNat))] (srl σ []) _
    have q_3 : 0 ≤ sL n D (sG (fun k => (σ r_Elements_factor) (k)) (sS n D (D + 1)).toNat) ∧ sL n D (sG (fun k => (σ r_Elements_factor) (k)) (sS n D (D + 1)).toNat) ≤ 7 := sL_b _ _ _
    exact wp_iret rfl ⟨(by repeat (first | rfl | rw [if_pos (by omega)] | rw [if_neg (by omega)])), rfl⟩
  · show en_wp k_X5_topOf 11 [some (.inr (.inr (r_Shape0, 0))), some (.inr (.inr (r_Elements_factor, 0))), some (.inl (sG (fun k => (σ r_Elements_factor) (k)) (sS n D (D + 1)).toNat))] [] (srl σ []) _
    refine wp_run 2 (pc' := 20) (ls' := [some (.inr (.inr (r_Shape0, 0))), some (.inr (.inr (r_Elements_factor, 0))), some (.inl (sG (fun k => (σ r_Elements_factor) (k)) (sS n D (D + 1)).toNat))]) (st' := [.inl (-1)]) (σ' := srl σ []) rfl ?_
    exact wp_iret rfl ⟨(by repeat (first | rfl | rw [if_pos (by omega)] | rw [if_neg (by omega)])), rfl⟩
theorem ct_X3_makePlain_Nought0_Elements_rowsR_Elements_spare (σ : en_m) (n : Int) (D : Int) (p : Int) (LW : Int → (Int → Int) → Prop) (a : Int) (hI : cS0 σ n D p) (gN : cNg ((σ r_Nought0_forms)) ((σ r_Nought0_formStart)) ((σ r_Nought0_leading)) ((σ r_Nought0_sizes)) ((σ r_Nought0_row)) n D p LW D) (ga : R97 ((σ r_Elements_rowsR))) (gap : ∀ x, 0 ≤ x → x < sS n D (D + 1) → (fun x => (σ r_Elements_rowsR) (a + x)) x < p) (gt : R97 ((σ r_Elements_spare))) : en_ct z_X3_makePlain [.inr (.inr (r_Nought0, 0)), .inr (.inr (r_Elements_rowsR, a)), .inr (.inr (r_Elements_spare, 0))] σ (fun r σ' => ∃ (f_Elements_spare : Int → Int), ∃ (f_Nought0_row : Int → Int), ∃ (f_Nought0_reduced : Int → Int), r = none ∧ σ' = srl σ [(r_Elements_spare, f_Elements_spare), (r_Nought0_row, f_Nought0_row), (r_Nought0_reduced, f_Nought0_reduced)] ∧ (nfR n D p LW (fun x => (σ r_Elements_rowsR) (a + x)) f_Elements_spare) ∧ (∀ x, sS n D (D + 1) ≤ x → x < 364 → f_Elements_spare x = 0) ∧ (R97 f_Elements_spare) ∧ (R97 f_Nought0_row) ∧ (∀ x, 0 ≤ x → x < sS n D (D + 1) → f_Elements_spare x < p)) := by
  show en_wp k_X3_makePlain 0 [some (.inr (.inr (r_Nought0, 0))), some (.inr (.inr (r_Elements_rowsR, a))), some (.inr (.inr (r_Elements_spare, 0))), none, none, none, none] [] (srl σ []) (fun r σ' => ∃ (f_Elements_spare : Int → Int), ∃ (f_Nought0_row : Int → Int), ∃ (f_Nought0_reduced : Int → Int), r = none ∧ σ' = srl σ [(r_Elements_spare, f_Elements_spare), (r_Nought0_row, f_Nought0_row), (r_Nought0_reduced, f_Nought0_reduced)] ∧ (nfR n D p LW (fun x => (σ r_Elements_rowsR) (a + x)) f_Elements_spare) ∧ (∀ x, sS n D (D + 1) ≤ x → x < 364 → f_Elements_spare x = 0) ∧ (R97 f_Elements_spare) ∧ (R97 f_Nought0_row) ∧ (∀ x, 0 ≤ x → x < sS n D (D + 1) → f_Elements_spare x < p))
  have hI2 := hI
  obtain ⟨hO, hn, hD, hp, hm, hst, hln⟩ := hI2
  obtain ⟨⟨hO1, hO2⟩, ⟨hO3, hO4⟩, hO5, hO6, hO7, hO8⟩ := id hO
  have hAb := sS_b (k := D + 1) hO
  have gap2 : ∀ x, 0 ≤ x → x < sS n D (D + 1) → σ r_Elements_rowsR (a + x) < p := gap
  obtain ⟨gN1, gN2, gN3, gN4, gN5, gN6⟩ := id gN
  have L_17 : ∀ (N : Nat) (d : Int) (t : Int) (C : Int → Int) (A : Int → Int) (X : Int → Int), (0 ≤ d ∧ d ≤ t + 1) → ((-1 ≤ t ∧ t ≤ D) ∧ ∀ x, 0 ≤ x → x < sS n D (D + 1) → t < sL n D x → (fun x => σ r_Elements_rowsR (a + x)) x = 0) → (∀ e, 0 ≤ e → e < d → isNF p (sW n D e) (nV n D p LW e.toNat) (fun j => (fun x => σ r_Elements_rowsR (a + x)) (sS n D e + j)) (fun j => C (sS n D e + j))) → (∀ x, sS n D d ≤ x → x < 364 → C x = 0) → (R97 C) → (R97 A) → (t + 1 - d).toNat < N → en_wp k_X3_makePlain 17 [some (.inr (.inr (r_Nought0, 0))), some (.inr (.inr (r_Elements_rowsR, a))), some (.inr (.inr (r_Elements_spare, 0))), some (.inl t), some (.inl d), none, none] [] (srl σ [(r_Elements_spare, C), (r_Nought0_row, A), (r_Nought0_reduced, X)]) (fun r σ' => ∃ (f_Elements_spare : Int → Int), ∃ (f_Nought0_row : Int → Int), ∃ (f_Nought0_reduced : Int → Int), r = none ∧ σ' = srl σ [(r_Elements_spare, f_Elements_spare), (r_Nought0_row, f_Nought0_row), (r_Nought0_reduced, f_Nought0_reduced)] ∧ (nfR n D p LW (fun x => (σ r_Elements_rowsR) (a + x)) f_Elements_spare) ∧ (∀ x, sS n D (D + 1) ≤ x → x < 364 → f_Elements_spare x = 0) ∧ (R97 f_Elements_spare) ∧ (R97 f_Nought0_row) ∧ (∀ x, 0 ≤ x → x < sS n D (D + 1) → f_Elements_spare x < p)) := by
    intro N
    induction N with
    | zero => intro d t C A X; intros; omega
    | succ N ih_17 =>
      intro d t C A X hd ht hN hT hC3 hA hN_17
      have hWb := sW_b (k := d) hO
      have hSb := sS_b (k := d) hO
      have hSs := sS_succ (n := n) (D := D) (k := d) hd.1
      have hSb1 := sS_b (k := d + 1) hO
      have hSm : d ≤ D → sS n D (d + 1) ≤ sS n D (D + 1) := fun h9 => sS_mono hO.1.1 (by omega)
      refine wp_run 2 (pc' := 20) (ls' := [some (.inr (.inr (r_Nought0, 0))), some (.inr (.inr (r_Elements_rowsR, a))), some (.inr (.inr (r_Elements_spare, 0))), some (.inl t), some (.inl d), none, none]) (st' := [.inl t, .inl d]) (σ' := srl σ [(r_Elements_spare, C), (r_Nought0_row, A), (r_Nought0_reduced, X)]) rfl ?_
      refine wp_ic_gt rfl (by omega) (by omega) (fun h_1 => ?_) (fun h_1 => ?_)
      · show en_wp k_X3_makePlain 85 [some (.inr (.inr (r_Nought0, 0))), some (.inr (.inr (r_Elements_rowsR, a))), some (.inr (.inr (r_Elements_spare, 0))), some (.inl t), some (.inl d), none, none] [] (srl σ [(r_Elements_spare, C), (r_Nought0_row, A), (r_Nought0_reduced, X)]) _
        exact wp_vret rfl ⟨C, A, X, rfl, srl_eq (l' := [(r_Elements_spare, C), (r_Nought0_row, A), (r_Nought0_reduced, X)]) (And.intro rfl (And.intro rfl (And.intro rfl trivial))) (And.intro rfl (And.intro rfl (And.intro rfl trivial))), (by have hf := mk_fin hO ht (by omega) hd.1 hN hT; exact ⟨hf, fun x h8 h9 => by have h7 := sS_mono (D := D) hO.1.1 (show d ≤ D + 1 by omega); exact hT x (by omega) h9, hC3, hA, fun x h8 h9 => by obtain ⟨e, w, a1, a2, a3, a4, a5⟩ := sL_ex hO h8 h9; rw [a5]; exact ((hf e a1 a2).2.1 w a3 a4).2⟩)⟩
      · show en_wp k_X3_makePlain 23 [some (.inr (.inr (r_Nought0, 0))), some (.inr (.inr (r_Elements_rowsR, a))), some (.inr (.inr (r_Elements_spare, 0))), some (.inl t), some (.inl d), none, none] [] (srl σ [(r_Elements_spare, C), (r_Nought0_row, A), (r_Nought0_reduced, X)]) _
        refine wp_run 3 (pc' := 29) (ls' := [some (.inr (.inr (r_Nought0, 0))), some (.inr (.inr (r_Elements_rowsR, a))), some (.inr (.inr (r_Elements_spare, 0))), some (.inl t), some (.inl d), none, none]) (st' := [.inl d, .inr (.inr (r_Shape0, 0))]) (σ' := srl σ [(r_Elements_spare, C), (r_Nought0_row, A), (r_Nought0_reduced, X)]) rfl ?_
        refine wp_fnv (v := .inl (sW n D d)) rfl rfl rfl rfl (ct_X5_wordsOf_Shape0 (srl σ [(r_Elements_spare, C), (r_Nought0_row, A), (r_Nought0_reduced, X)]) n D p d hI (by omega)) ?_
        show en_wp k_X3_makePlain 32 [some (.inr (.inr (r_Nought0, 0))), some (.inr (.inr (r_Elements_rowsR, a))), some (.inr (.inr (r_Elements_spare, 0))), some (.inl t), some (.inl d), none, none] [.inl (sW n D d)] (srl σ [(r_Elements_spare, C), (r_Nought0_row, A), (r_Nought0_reduced, X)]) _
        have q_2 : 0 ≤ sW n D d ∧ sW n D d ≤ 256 := sW_b hO
        refine wp_run 4 (pc' := 40) (ls' := [some (.inr (.inr (r_Nought0, 0))), some (.inr (.inr (r_Elements_rowsR, a))), some (.inr (.inr (r_Elements_spare, 0))), some (.inl t), some (.inl d), some (.inl (sW n D d)), none]) (st' := [.inl d, .inr (.inr (r_Shape0, 0))]) (σ' := srl σ [(r_Elements_spare, C), (r_Nought0_row, A), (r_Nought0_reduced, X)]) rfl ?_
        refine wp_fnv (v := .inl (sS n D d)) rfl rfl rfl rfl (ct_X5_startOf_Shape0_p (srl σ [(r_Elements_spare, C), (r_Nought0_row, A), (r_Nought0_reduced, X)]) n D p d hI (by omega)) ?_
        show en_wp k_X3_makePlain 43 [some (.inr (.inr (r_Nought0, 0))), some (.inr (.inr (r_Elements_rowsR, a))), some (.inr (.inr (r_Elements_spare, 0))), some (.inl t), some (.inl d), some (.inl (sW n D d)), none] [.inl (sS n D d)] (srl σ [(r_Elements_spare, C), (r_Nought0_row, A), (r_Nought0_reduced, X)]) _
        have q_3 : 0 ≤ sS n D d ∧ sS n D d ≤ 364 := sS_b hO
        refine wp_run 7 (pc' := 55) (ls' := [some (.inr (.inr (r_Nought0, 0))), some (.inr (.inr (r_Elements_rowsR, a))), some (.inr (.inr (r_Elements_spare, 0))), some (.inl t), some (.inl d), some (.inl (sW n D d)), some (.inl (sS n D d))]) (st' := [.inl (sW n D d), .inl 0, .inr (.inr (r_Nought0_row, 0)), .inl (sS n D d), .inr (.inr (r_Elements_rowsR, a))]) (σ' := srl σ [(r_Elements_spare, C), (r_Nought0_row, A), (r_Nought0_reduced, X)]) rfl ?_
        refine wp_copy rfl rfl rfl rfl (by omega) (by omega) (by omega) (wp_wr (l2 := [(r_Elements_spare, C), (r_Nought0_row, (en_cpy (σ r_Elements_rowsR) A (a + (sS n D d)) (0 + 0) (sW n D d))), (r_Nought0_reduced, X)]) rfl ?_)
        show en_wp k_X3_makePlain 58 [some (.inr (.inr (r_Nought0, 0))), some (.inr (.inr (r_Elements_rowsR, a))), some (.inr (.inr (r_Elements_spare, 0))), some (.inl t), some (.inl d), some (.inl (sW n D d)), some (.inl (sS n D d))] [] (srl σ [(r_Elements_spare, C), (r_Nought0_row, (en_cpy (σ r_Elements_rowsR) A (a + (sS n D d)) (0 + 0) (sW n D d))), (r_Nought0_reduced, X)]) _
        refine wp_run 3 (pc' := 63) (ls' := [some (.inr (.inr (r_Nought0, 0))), some (.inr (.inr (r_Elements_rowsR, a))), some (.inr (.inr (r_Elements_spare, 0))), some (.inl t), some (.inl d), some (.inl (sW n D d)), some (.inl (sS n D d))]) (st' := [.inl (sW n D d), .inl d, .inr (.inr (r_Nought0, 0))]) (σ' := srl σ [(r_Elements_spare, C), (r_Nought0_row, (en_cpy (σ r_Elements_rowsR) A (a + (sS n D d)) (0 + 0) (sW n D d))), (r_Nought0_reduced, X)]) rfl ?_
        have hcd := (gN6 d hd.1 (by omega)).2.2.1
        have hgs := (gN6 d hd.1 (by omega)).1
        have hrx : ∀ j, 0 ≤ j → j < sW n D d → en_cpy (σ r_Elements_rowsR) A (a + sS n D d) (0 + 0) (sW n D d) j = (fun x => σ r_Elements_rowsR (a + x)) (sS n D d + j) := fun j h8 h9 => by
          rw [cpy_new, show (0 : Int) + 0 = 0 from rfl, seg_in0 ⟨h8, h9⟩]
          show σ r_Elements_rowsR (a + sS n D d + j) = σ r_Elements_rowsR (a + (sS n D d + j))
          rw [Int.add_assoc]
        have hA2 : R97 (en_cpy (σ r_Elements_rowsR) A (a + sS n D d) (0 + 0) (sW n D d)) := by
          rw [cpy_new]
          exact R97_seg hA (fun _ _ _ => ga _)
        refine wp_callv rfl rfl rfl rfl (ct_X3_reduce_Nought0 (srl σ [(r_Elements_spare, C), (r_Nought0_row, (en_cpy (σ r_Elements_rowsR) A (a + (sS n D d)) (0 + 0) (sW n D d))), (r_Nought0_reduced, X)]) n D p d (sW n D d) hI (by omega) (by omega) hgs hA2 gN2 hcd.2.1) ?_
        rintro _ _ ⟨f_4, rfl, rfl, p_5⟩
        have p_5 : ∀ x, 0 ≤ x → x < sW n D d → f_4 x = nfs (fun w k => (σ r_Nought0_forms) (sQ n D d + w * sW n D d + k)) (sW n D d) ((en_cpy (σ r_Elements_rowsR) A (a + (sS n D d)) (0 + 0) (sW n D d))) x % p := p_5
        refine wp_bk (l2 := [(r_Elements_spare, C), (r_Nought0_row, (en_cpy (σ r_Elements_rowsR) A (a + (sS n D d)) (0 + 0) (sW n D d))), (r_Nought0_reduced, f_4)]) rfl rfl ?_
        show en_wp k_X3_makePlain 66 [some (.inr (.inr (r_Nought0, 0))), some (.inr (.inr (r_Elements_rowsR, a))), some (.inr (.inr (r_Elements_spare, 0))), some (.inl t), some (.inl d), some (.inl (sW n D d)), some (.inl (sS n D d))] [] (srl σ [(r_Elements_spare, C), (r_Nought0_row, (en_cpy (σ r_Elements_rowsR) A (a + (sS n D d)) (0 + 0) (sW n D d))), (r_Nought0_reduced, f_4)]) _
        have hred := p_5
        have hnf : isNF p (sW n D d) (nV n D p LW d.toNat) (fun j => (fun x => σ r_Elements_rowsR (a + x)) (sS n D d + j)) (fun k => nfs _ (sW n D d) _ k % p) := nf_src (cD_sub hcd) (cD_nf hcd (by omega) _) hrx
        refine wp_run 6 (pc' := 76) (ls' := [some (.inr (.inr (r_Nought0, 0))), some (.inr (.inr (r_Elements_rowsR, a))), some (.inr (.inr (r_Elements_spare, 0))), some (.inl t), some (.inl d), some (.inl (sW n D d)), some (.inl (sS n D d))]) (st' := [.inl (sW n D d), .inl (sS n D d), .inr (.inr (r_Elements_spare, 0)), .inl 0, .inr (.inr (r_Nought0_reduced, 0))]) (σ' := srl σ [(r_Elements_spare, C), (r_Nought0_row, (en_cpy (σ r_Elements_rowsR) A (a + (sS n D d)) (0 + 0) (sW n D d))), (r_Nought0_reduced, f_4)]) rfl ?_
        refine wp_copy rfl rfl rfl rfl (by omega) (by omega) (by omega) (wp_wr (l2 := [(r_Elements_spare, (en_cpy f_4 C (0 + 0) (0 + (sS n D d)) (sW n D d))), (r_Nought0_row, (en_cpy (σ r_Elements_rowsR) A (a + (sS n D d)) (0 + 0) (sW n D d))), (r_Nought0_reduced, f_4)]) rfl ?_)
        show en_wp k_X3_makePlain 79 [some (.inr (.inr (r_Nought0, 0))), some (.inr (.inr (r_Elements_rowsR, a))), some (.inr (.inr (r_Elements_spare, 0))), some (.inl t), some (.inl d), some (.inl (sW n D d)), some (.inl (sS n D d))] [] (srl σ [(r_Elements_spare, (en_cpy f_4 C (0 + 0) (0 + (sS n D d)) (sW n D d))), (r_Nought0_row, (en_cpy (σ r_Elements_rowsR) A (a + (sS n D d)) (0 + 0) (sW n D d))), (r_Nought0_reduced, f_4)]) _
        refine wp_run 2 (pc' := 17) (ls' := [some (.inr (.inr (r_Nought0, 0))), some (.inr (.inr (r_Elements_rowsR, a))), some (.inr (.inr (r_Elements_spare, 0))), some (.inl t), some (.inl (d + 1)), some (.inl (sW n D d)), some (.inl (sS n D d))]) (st' := []) (σ' := srl σ [(r_Elements_spare, (en_cpy f_4 C (0 + 0) (0 + (sS n D d)) (sW n D d))), (r_Nought0_row, (en_cpy (σ r_Elements_rowsR) A (a + (sS n D d)) (0 + 0) (sW n D d))), (r_Nought0_reduced, f_4)]) rfl ?_
        refine wp_sub (l := [some (.inr (.inr (r_Nought0, 0))), some (.inr (.inr (r_Elements_rowsR, a))), some (.inr (.inr (r_Elements_spare, 0))), some (.inl t), some (.inl (d + 1)), none, none]) (And.intro rfl (And.intro rfl (And.intro rfl (And.intro rfl (And.intro rfl trivial))))) ?_
        exact ih_17 (d + 1) t (en_cpy f_4 C (0 + 0) (0 + (sS n D d)) (sW n D d)) (en_cpy (σ r_Elements_rowsR) A (a + (sS n D d)) (0 + 0) (sW n D d)) f_4 (by omega) ht (fun e h8 h9 => by rcases Int.lt_or_eq_of_le (show e ≤ d by omega) with h5 | h5 <;> first | exact nf_dst (hN e h8 h5) (fun j a1 a2 => by have h1 := sS_word hO h8 ⟨a1, a2⟩; have h2 := sS_mono (D := D) hO.1.1 (show e + 1 ≤ d by omega); rw [cpy_new, seg_out (by omega)]) (nV_subI (by omega) (by omega) h8) | (rw [h5]; exact nf_dst hnf (fun j a1 a2 => by rw [cpy_at ⟨a1, a2⟩, hred j a1 a2]) (nV_subI (by omega) (by omega) (by omega)))) (fun x h8 h9 => by rw [cpy_new, seg_out (by omega)]; exact hT x (by omega) h9) (by rw [cpy_new]; exact R97_seg hC3 (fun x h8 h9 => by rw [Int.zero_add, Int.zero_add, hred x h8 h9]; have := @sR_lt p (nfs (fun w k => σ r_Nought0_forms (sQ n D d + w * sW n D d + k)) (sW n D d) (en_cpy (σ r_Elements_rowsR) A (a + sS n D d) (0 + 0) (sW n D d)) x) hO.2.2.2; omega)) hA2 (by omega)
  refine wp_run 2 (pc' := 2) (ls' := [some (.inr (.inr (r_Nought0, 0))), some (.inr (.inr (r_Elements_rowsR, a))), some (.inr (.inr (r_Elements_spare, 0))), none, none, none, none]) (st' := [.inl 0, .inr (.inr (r_Elements_spare, 0))]) (σ' := srl σ []) rfl ?_
  refine wp_calls rfl rfl rfl rfl rfl (ct_J7_fill_53178_Elements_spare σ 0) ?_
  rintro _ _ ⟨rfl, rfl⟩
  show en_wp k_X3_makePlain 5 [some (.inr (.inr (r_Nought0, 0))), some (.inr (.inr (r_Elements_rowsR, a))), some (.inr (.inr (r_Elements_spare, 0))), none, none, none, none] [] (srl σ [(r_Elements_spare, (seg (σ r_Elements_spare) 0 364 (fun _ => 0)))]) _
  refine wp_run 3 (pc' := 10) (ls' := [some (.inr (.inr (r_Nought0, 0))), some (.inr (.inr (r_Elements_rowsR, a))), some (.inr (.inr (r_Elements_spare, 0))), none, none, none, none]) (st' := [.inr (.inr (r_Elements_rowsR, a)), .inr (.inr (r_Shape0, 0))]) (σ' := srl σ [(r_Elements_spare, (seg (σ r_Elements_spare) 0 364 (fun _ => 0)))]) rfl ?_
  refine wp_fnv (v := .inl (if (sG (fun k => (σ r_Elements_rowsR) (a + k)) (sS n D (D + 1)).toNat) = -1 then -1 else sL n D (sG (fun k => (σ r_Elements_rowsR) (a + k)) (sS n D (D + 1)).toNat))) rfl rfl rfl rfl (ct_X5_topOf_Shape0_Elements_rowsR (srl σ [(r_Elements_spare, (seg (σ r_Elements_spare) 0 364 (fun _ => 0)))]) n D p a hI ga) ?_
  show en_wp k_X3_makePlain 13 [some (.inr (.inr (r_Nought0, 0))), some (.inr (.inr (r_Elements_rowsR, a))), some (.inr (.inr (r_Elements_spare, 0))), none, none, none, none] [.inl (if (sG (fun k => (σ r_Elements_rowsR) (a + k)) (sS n D (D + 1)).toNat) = -1 then -1 else sL n D (sG (fun k => (σ r_Elements_rowsR) (a + k)) (sS n D (D + 1)).toNat))] (srl σ [(r_Elements_spare, (seg (σ r_Elements_spare) 0 364 (fun _ => 0)))]) _
  have q_6 : -1 ≤ (if (sG (fun k => (σ r_Elements_rowsR) (a + k)) (sS n D (D + 1)).toNat) = -1 then -1 else sL n D (sG (fun k => (σ r_Elements_rowsR) (a + k)) (sS n D (D + 1)).toNat)) ∧ (if (sG (fun k => (σ r_Elements_rowsR) (a + k)) (sS n D (D + 1)).toNat) = -1 then -1 else sL n D (sG (fun k => (σ r_Elements_rowsR) (a + k)) (sS n D (D + 1)).toNat)) ≤ 7 := (by have h9 := sL_b n D (sG (fun k => (σ r_Elements_rowsR) (a + k)) (sS n D (D + 1)).toNat); omega)
  have htt := top_t hO (f := (fun x => σ r_Elements_rowsR (a + x))) rfl
  refine wp_run 3 (pc' := 17) (ls' := [some (.inr (.inr (r_Nought0, 0))), some (.inr (.inr (r_Elements_rowsR, a))), some (.inr (.inr (r_Elements_spare, 0))), some (.inl (if (sG (fun k => (σ r_Elements_rowsR) (a + k)) (sS n D (D + 1)).toNat) = -1 then -1 else sL n D (sG (fun k => (σ r_Elements_rowsR) (a + k)) (sS n D (D + 1)).toNat))), some (.inl 0), none, none]) (st' := []) (σ' := srl σ [(r_Elements_spare, (seg (σ r_Elements_spare) 0 364 (fun _ => 0)))]) rfl ?_
  refine wp_mem (srl_eq (l' := [(r_Elements_spare, (seg (σ r_Elements_spare) 0 364 (fun _ => 0))), (r_Nought0_row, (σ r_Nought0_row)), (r_Nought0_reduced, (σ r_Nought0_reduced))]) (And.intro rfl trivial) (And.intro rfl (And.intro rfl (And.intro rfl trivial)))) ?_
  exact L_17 _ 0 (if (sG (fun k => (σ r_Elements_rowsR) (a + k)) (sS n D (D + 1)).toNat) = -1 then -1 else sL n D (sG (fun k => (σ r_Elements_rowsR) (a + k)) (sS n D (D + 1)).toNat)) (seg (σ r_Elements_spare) 0 364 (fun _ => 0)) (σ r_Nought0_row) (σ r_Nought0_reduced) (by omega) htt (fun e h8 h9 => by omega) (fun x h8 h9 => by have := sS_nn (D := D) (k := 0) hO.1.1; exact seg_in0 (g := fun _ => 0) (by omega)) (R97_seg gt (fun _ _ _ => by decide)) gN4 (Nat.lt_succ_self _)
theorem ct_X3_makePlain_Nought0_Elements_rowsR_Elements_factor (σ : en_m) (n : Int) (D : Int) (p : Int) (LW : Int → (Int → Int) → Prop) (a : Int) (hI : cS0 σ n D p) (gN : cNg ((σ r_Nought0_forms)) ((σ r_Nought0_formStart)) ((σ r_Nought0_leading)) ((σ r_Nought0_sizes)) ((σ r_Nought0_row)) n D p LW D) (ga : R97 ((σ r_Elements_rowsR))) (gap : ∀ x, 0 ≤ x → x < sS n D (D + 1) → (fun x => (σ r_Elements_rowsR) (a + x)) x < p) (gt : R97 ((σ r_Elements_factor))) : en_ct z_X3_makePlain [.inr (.inr (r_Nought0, 0)), .inr (.inr (r_Elements_rowsR, a)), .inr (.inr (r_Elements_factor, 0))] σ (fun r σ' => ∃ (f_Elements_factor : Int → Int), ∃ (f_Nought0_row : Int → Int), ∃ (f_Nought0_reduced : Int → Int), r = none ∧ σ' = srl σ [(r_Elements_factor, f_Elements_factor), (r_Nought0_row, f_Nought0_row), (r_Nought0_reduced, f_Nought0_reduced)] ∧ (nfR n D p LW (fun x => (σ r_Elements_rowsR) (a + x)) f_Elements_factor) ∧ (∀ x, sS n D (D + 1) ≤ x → x < 364 → f_Elements_factor x = 0) ∧ (R97 f_Elements_factor) ∧ (R97 f_Nought0_row) ∧ (∀ x, 0 ≤ x → x < sS n D (D + 1) → f_Elements_factor x < p)) := by
  show en_wp k_X3_makePlain 0 [some (.inr (.inr (r_Nought0, 0))), some (.inr (.inr (r_Elements_rowsR, a))), some (.inr (.inr (r_Elements_factor, 0))), none, none, none, none] [] (srl σ []) (fun r σ' => ∃ (f_Elements_factor : Int → Int), ∃ (f_Nought0_row : Int → Int), ∃ (f_Nought0_reduced : Int → Int), r = none ∧ σ' = srl σ [(r_Elements_factor, f_Elements_factor), (r_Nought0_row, f_Nought0_row), (r_Nought0_reduced, f_Nought0_reduced)] ∧ (nfR n D p LW (fun x => (σ r_Elements_rowsR) (a + x)) f_Elements_factor) ∧ (∀ x, sS n D (D + 1) ≤ x → x < 364 → f_Elements_factor x = 0) ∧ (R97 f_Elements_factor) ∧ (R97 f_Nought0_row) ∧ (∀ x, 0 ≤ x → x < sS n D (D + 1) → f_Elements_factor x < p))
  have hI2 := hI
  obtain ⟨hO, hn, hD, hp, hm, hst, hln⟩ := hI2
  obtain ⟨⟨hO1, hO2⟩, ⟨hO3, hO4⟩, hO5, hO6, hO7, hO8⟩ := id hO
  have hAb := sS_b (k := D + 1) hO
  have gap2 : ∀ x, 0 ≤ x → x < sS n D (D + 1) → σ r_Elements_rowsR (a + x) < p := gap
  obtain ⟨gN1, gN2, gN3, gN4, gN5, gN6⟩ := id gN
  have L_17 : ∀ (N : Nat) (d : Int) (t : Int) (C : Int → Int) (A : Int → Int) (X : Int → Int), (0 ≤ d ∧ d ≤ t + 1) → ((-1 ≤ t ∧ t ≤ D) ∧ ∀ x, 0 ≤ x → x < sS n D (D + 1) → t < sL n D x → (fun x => σ r_Elements_rowsR (a + x)) x = 0) → (∀ e, 0 ≤ e → e < d → isNF p (sW n D e) (nV n D p LW e.toNat) (fun j => (fun x => σ r_Elements_rowsR (a + x)) (sS n D e + j)) (fun j => C (sS n D e + j))) → (∀ x, sS n D d ≤ x → x < 364 → C x = 0) → (R97 C) → (R97 A) → (t + 1 - d).toNat < N → en_wp k_X3_makePlain 17 [some (.inr (.inr (r_Nought0, 0))), some (.inr (.inr (r_Elements_rowsR, a))), some (.inr (.inr (r_Elements_factor, 0))), some (.inl t), some (.inl d), none, none] [] (srl σ [(r_Elements_factor, C), (r_Nought0_row, A), (r_Nought0_reduced, X)]) (fun r σ' => ∃ (f_Elements_factor : Int → Int), ∃ (f_Nought0_row : Int → Int), ∃ (f_Nought0_reduced : Int → Int), r = none ∧ σ' = srl σ [(r_Elements_factor, f_Elements_factor), (r_Nought0_row, f_Nought0_row), (r_Nought0_reduced, f_Nought0_reduced)] ∧ (nfR n D p LW (fun x => (σ r_Elements_rowsR) (a + x)) f_Elements_factor) ∧ (∀ x, sS n D (D + 1) ≤ x → x < 364 → f_Elements_factor x = 0) ∧ (R97 f_Elements_factor) ∧ (R97 f_Nought0_row) ∧ (∀ x, 0 ≤ x → x < sS n D (D + 1) → f_Elements_factor x < p)) := by
    intro N
    induction N with
    | zero => intro d t C A X; intros; omega
    | succ N ih_17 =>
      intro d t C A X hd ht hN hT hC3 hA hN_17
      have hWb := sW_b (k := d) hO
      have hSb := sS_b (k := d) hO
      have hSs := sS_succ (n := n) (D := D) (k := d) hd.1
      have hSb1 := sS_b (k := d + 1) hO
      have hSm : d ≤ D → sS n D (d + 1) ≤ sS n D (D + 1) := fun h9 => sS_mono hO.1.1 (by omega)
      refine wp_run 2 (pc' := 20) (ls' := [some (.inr (.inr (r_Nought0, 0))), some (.inr (.inr (r_Elements_rowsR, a))), some (.inr (.inr (r_Elements_factor, 0))), some (.inl t), some (.inl d), none, none]) (st' := [.inl t, .inl d]) (σ' := srl σ [(r_Elements_factor, C), (r_Nought0_row, A), (r_Nought0_reduced, X)]) rfl ?_
      refine wp_ic_gt rfl (by omega) (by omega) (fun h_1 => ?_) (fun h_1 => ?_)
      · show en_wp k_X3_makePlain 85 [some (.inr (.inr (r_Nought0, 0))), some (.inr (.inr (r_Elements_rowsR, a))), some (.inr (.inr (r_Elements_factor, 0))), some (.inl t), some (.inl d), none, none] [] (srl σ [(r_Elements_factor, C), (r_Nought0_row, A), (r_Nought0_reduced, X)]) _
        exact wp_vret rfl ⟨C, A, X, rfl, srl_eq (l' := [(r_Elements_factor, C), (r_Nought0_row, A), (r_Nought0_reduced, X)]) (And.intro rfl (And.intro rfl (And.intro rfl trivial))) (And.intro rfl (And.intro rfl (And.intro rfl trivial))), (by have hf := mk_fin hO ht (by omega) hd.1 hN hT; exact ⟨hf, fun x h8 h9 => by have h7 := sS_mono (D := D) hO.1.1 (show d ≤ D + 1 by omega); exact hT x (by omega) h9, hC3, hA, fun x h8 h9 => by obtain ⟨e, w, a1, a2, a3, a4, a5⟩ := sL_ex hO h8 h9; rw [a5]; exact ((hf e a1 a2).2.1 w a3 a4).2⟩)⟩
      · show en_wp k_X3_makePlain 23 [some (.inr (.inr (r_Nought0, 0))), some (.inr (.inr (r_Elements_rowsR, a))), some (.inr (.inr (r_Elements_factor, 0))), some (.inl t), some (.inl d), none, none] [] (srl σ [(r_Elements_factor, C), (r_Nought0_row, A), (r_Nought0_reduced, X)]) _
        refine wp_run 3 (pc' := 29) (ls' := [some (.inr (.inr (r_Nought0, 0))), some (.inr (.inr (r_Elements_rowsR, a))), some (.inr (.inr (r_Elements_factor, 0))), some (.inl t), some (.inl d), none, none]) (st' := [.inl d, .inr (.inr (r_Shape0, 0))]) (σ' := srl σ [(r_Elements_factor, C), (r_Nought0_row, A), (r_Nought0_reduced, X)]) rfl ?_
        refine wp_fnv (v := .inl (sW n D d)) rfl rfl rfl rfl (ct_X5_wordsOf_Shape0 (srl σ [(r_Elements_factor, C), (r_Nought0_row, A), (r_Nought0_reduced, X)]) n D p d hI (by omega)) ?_
        show en_wp k_X3_makePlain 32 [some (.inr (.inr (r_Nought0, 0))), some (.inr (.inr (r_Elements_rowsR, a))), some (.inr (.inr (r_Elements_factor, 0))), some (.inl t), some (.inl d), none, none] [.inl (sW n D d)] (srl σ [(r_Elements_factor, C), (r_Nought0_row, A), (r_Nought0_reduced, X)]) _
        have q_2 : 0 ≤ sW n D d ∧ sW n D d ≤ 256 := sW_b hO
        refine wp_run 4 (pc' := 40) (ls' := [some (.inr (.inr (r_Nought0, 0))), some (.inr (.inr (r_Elements_rowsR, a))), some (.inr (.inr (r_Elements_factor, 0))), some (.inl t), some (.inl d), some (.inl (sW n D d)), none]) (st' := [.inl d, .inr (.inr (r_Shape0, 0))]) (σ' := srl σ [(r_Elements_factor, C), (r_Nought0_row, A), (r_Nought0_reduced, X)]) rfl ?_
        refine wp_fnv (v := .inl (sS n D d)) rfl rfl rfl rfl (ct_X5_startOf_Shape0_p (srl σ [(r_Elements_factor, C), (r_Nought0_row, A), (r_Nought0_reduced, X)]) n D p d hI (by omega)) ?_
        show en_wp k_X3_makePlain 43 [some (.inr (.inr (r_Nought0, 0))), some (.inr (.inr (r_Elements_rowsR, a))), some (.inr (.inr (r_Elements_factor, 0))), some (.inl t), some (.inl d), some (.inl (sW n D d)), none] [.inl (sS n D d)] (srl σ [(r_Elements_factor, C), (r_Nought0_row, A), (r_Nought0_reduced, X)]) _
        have q_3 : 0 ≤ sS n D d ∧ sS n D d ≤ 364 := sS_b hO
        refine wp_run 7 (pc' := 55) (ls' := [some (.inr (.inr (r_Nought0, 0))), some (.inr (.inr (r_Elements_rowsR, a))), some (.inr (.inr (r_Elements_factor, 0))), some (.inl t), some (.inl d), some (.inl (sW n D d)), some (.inl (sS n D d))]) (st' := [.inl (sW n D d), .inl 0, .inr (.inr (r_Nought0_row, 0)), .inl (sS n D d), .inr (.inr (r_Elements_rowsR, a))]) (σ' := srl σ [(r_Elements_factor, C), (r_Nought0_row, A), (r_Nought0_reduced, X)]) rfl ?_
        refine wp_copy rfl rfl rfl rfl (by omega) (by omega) (by omega) (wp_wr (l2 := [(r_Elements_factor, C), (r_Nought0_row, (en_cpy (σ r_Elements_rowsR) A (a + (sS n D d)) (0 + 0) (sW n D d))), (r_Nought0_reduced, X)]) rfl ?_)
        show en_wp k_X3_makePlain 58 [some (.inr (.inr (r_Nought0, 0))), some (.inr (.inr (r_Elements_rowsR, a))), some (.inr (.inr (r_Elements_factor, 0))), some (.inl t), some (.inl d), some (.inl (sW n D d)), some (.inl (sS n D d))] [] (srl σ [(r_Elements_factor, C), (r_Nought0_row, (en_cpy (σ r_Elements_rowsR) A (a + (sS n D d)) (0 + 0) (sW n D d))), (r_Nought0_reduced, X)]) _
        refine wp_run 3 (pc' := 63) (ls' := [some (.inr (.inr (r_Nought0, 0))), some (.inr (.inr (r_Elements_rowsR, a))), some (.inr (.inr (r_Elements_factor, 0))), some (.inl t), some (.inl d), some (.inl (sW n D d)), some (.inl (sS n D d))]) (st' := [.inl (sW n D d), .inl d, .inr (.inr (r_Nought0, 0))]) (σ' := srl σ [(r_Elements_factor, C), (r_Nought0_row, (en_cpy (σ r_Elements_rowsR) A (a + (sS n D d)) (0 + 0) (sW n D d))), (r_Nought0_reduced, X)]) rfl ?_
        have hcd := (gN6 d hd.1 (by omega)).2.2.1
        have hgs := (gN6 d hd.1 (by omega)).1
        have hrx : ∀ j, 0 ≤ j → j < sW n D d → en_cpy (σ r_Elements_rowsR) A (a + sS n D d) (0 + 0) (sW n D d) j = (fun x => σ r_Elements_rowsR (a + x)) (sS n D d + j) := fun j h8 h9 => by
          rw [cpy_new, show (0 : Int) + 0 = 0 from rfl, seg_in0 ⟨h8, h9⟩]
          show σ r_Elements_rowsR (a + sS n D d + j) = σ r_Elements_rowsR (a + (sS n D d + j))
          rw [Int.add_assoc]
        have hA2 : R97 (en_cpy (σ r_Elements_rowsR) A (a + sS n D d) (0 + 0) (sW n D d)) := by
          rw [cpy_new]
          exact R97_seg hA (fun _ _ _ => ga _)
        refine wp_callv rfl rfl rfl rfl (ct_X3_reduce_Nought0 (srl σ [(r_Elements_factor, C), (r_Nought0_row, (en_cpy (σ r_Elements_rowsR) A (a + (sS n D d)) (0 + 0) (sW n D d))), (r_Nought0_reduced, X)]) n D p d (sW n D d) hI (by omega) (by omega) hgs hA2 gN2 hcd.2.1) ?_
        rintro _ _ ⟨f_4, rfl, rfl, p_5⟩
        have p_5 : ∀ x, 0 ≤ x → x < sW n D d → f_4 x = nfs (fun w k => (σ r_Nought0_forms) (sQ n D d + w * sW n D d + k)) (sW n D d) ((en_cpy (σ r_Elements_rowsR) A (a + (sS n D d)) (0 + 0) (sW n D d))) x % p := p_5
        refine wp_bk (l2 := [(r_Elements_factor, C), (r_Nought0_row, (en_cpy (σ r_Elements_rowsR) A (a + (sS n D d)) (0 + 0) (sW n D d))), (r_Nought0_reduced, f_4)]) rfl rfl ?_
        show en_wp k_X3_makePlain 66 [some (.inr (.inr (r_Nought0, 0))), some (.inr (.inr (r_Elements_rowsR, a))), some (.inr (.inr (r_Elements_factor, 0))), some (.inl t), some (.inl d), some (.inl (sW n D d)), some (.inl (sS n D d))] [] (srl σ [(r_Elements_factor, C), (r_Nought0_row, (en_cpy (σ r_Elements_rowsR) A (a + (sS n D d)) (0 + 0) (sW n D d))), (r_Nought0_reduced, f_4)]) _
        have hred := p_5
        have hnf : isNF p (sW n D d) (nV n D p LW d.toNat) (fun j => (fun x => σ r_Elements_rowsR (a + x)) (sS n D d + j)) (fun k => nfs _ (sW n D d) _ k % p) := nf_src (cD_sub hcd) (cD_nf hcd (by omega) _) hrx
        refine wp_run 6 (pc' := 76) (ls' := [some (.inr (.inr (r_Nought0, 0))), some (.inr (.inr (r_Elements_rowsR, a))), some (.inr (.inr (r_Elements_factor, 0))), some (.inl t), some (.inl d), some (.inl (sW n D d)), some (.inl (sS n D d))]) (st' := [.inl (sW n D d), .inl (sS n D d), .inr (.inr (r_Elements_factor, 0)), .inl 0, .inr (.inr (r_Nought0_reduced, 0))]) (σ' := srl σ [(r_Elements_factor, C), (r_Nought0_row, (en_cpy (σ r_Elements_rowsR) A (a + (sS n D d)) (0 + 0) (sW n D d))), (r_Nought0_reduced, f_4)]) rfl ?_
        refine wp_copy rfl rfl rfl rfl (by omega) (by omega) (by omega) (wp_wr (l2 := [(r_Elements_factor, (en_cpy f_4 C (0 + 0) (0 + (sS n D d)) (sW n D d))), (r_Nought0_row, (en_cpy (σ r_Elements_rowsR) A (a + (sS n D d)) (0 + 0) (sW n D d))), (r_Nought0_reduced, f_4)]) rfl ?_)
        show en_wp k_X3_makePlain 79 [some (.inr (.inr (r_Nought0, 0))), some (.inr (.inr (r_Elements_rowsR, a))), some (.inr (.inr (r_Elements_factor, 0))), some (.inl t), some (.inl d), some (.inl (sW n D d)), some (.inl (sS n D d))] [] (srl σ [(r_Elements_factor, (en_cpy f_4 C (0 + 0) (0 + (sS n D d)) (sW n D d))), (r_Nought0_row, (en_cpy (σ r_Elements_rowsR) A (a + (sS n D d)) (0 + 0) (sW n D d))), (r_Nought0_reduced, f_4)]) _
        refine wp_run 2 (pc' := 17) (ls' := [some (.inr (.inr (r_Nought0, 0))), some (.inr (.inr (r_Elements_rowsR, a))), some (.inr (.inr (r_Elements_factor, 0))), some (.inl t), some (.inl (d + 1)), some (.inl (sW n D d)), some (.inl (sS n D d))]) (st' := []) (σ' := srl σ [(r_Elements_factor, (en_cpy f_4 C (0 + 0) (0 + (sS n D d)) (sW n D d))), (r_Nought0_row, (en_cpy (σ r_Elements_rowsR) A (a + (sS n D d)) (0 + 0) (sW n D d))), (r_Nought0_reduced, f_4)]) rfl ?_
        refine wp_sub (l := [some (.inr (.inr (r_Nought0, 0))), some (.inr (.inr (r_Elements_rowsR, a))), some (.inr (.inr (r_Elements_factor, 0))), some (.inl t), some (.inl (d + 1)), none, none]) (And.intro rfl (And.intro rfl (And.intro rfl (And.intro rfl (And.intro rfl trivial))))) ?_
        exact ih_17 (d + 1) t (en_cpy f_4 C (0 + 0) (0 + (sS n D d)) (sW n D d)) (en_cpy (σ r_Elements_rowsR) A (a + (sS n D d)) (0 + 0) (sW n D d)) f_4 (by omega) ht (fun e h8 h9 => by rcases Int.lt_or_eq_of_le (show e ≤ d by omega) with h5 | h5 <;> first | exact nf_dst (hN e h8 h5) (fun j a1 a2 => by have h1 := sS_word hO h8 ⟨a1, a2⟩; have h2 := sS_mono (D := D) hO.1.1 (show e + 1 ≤ d by omega); rw [cpy_new, seg_out (by omega)]) (nV_subI (by omega) (by omega) h8) | (rw [h5]; exact nf_dst hnf (fun j a1 a2 => by rw [cpy_at ⟨a1, a2⟩, hred j a1 a2]) (nV_subI (by omega) (by omega) (by omega)))) (fun x h8 h9 => by rw [cpy_new, seg_out (by omega)]; exact hT x (by omega) h9) (by rw [cpy_new]; exact R97_seg hC3 (fun x h8 h9 => by rw [Int.zero_add, Int.zero_add, hred x h8 h9]; have := @sR_lt p (nfs (fun w k => σ r_Nought0_forms (sQ n D d + w * sW n D d + k)) (sW n D d) (en_cpy (σ r_Elements_rowsR) A (a + sS n D d) (0 + 0) (sW n D d)) x) hO.2.2.2; omega)) hA2 (by omega)
  refine wp_run 2 (pc' := 2) (ls' := [some (.inr (.inr (r_Nought0, 0))), some (.inr (.inr (r_Elements_rowsR, a))), some (.inr (.inr (r_Elements_factor, 0))), none, none, none, none]) (st' := [.inl 0, .inr (.inr (r_Elements_factor, 0))]) (σ' := srl σ []) rfl ?_
  refine wp_calls rfl rfl rfl rfl rfl (ct_J7_fill_53178_Elements_factor σ 0) ?_
  rintro _ _ ⟨rfl, rfl⟩
  show en_wp k_X3_makePlain 5 [some (.inr (.inr (r_Nought0, 0))), some (.inr (.inr (r_Elements_rowsR, a))), some (.inr (.inr (r_Elements_factor, 0))), none, none, none, none] [] (srl σ [(r_Elements_factor, (seg (σ r_Elements_factor) 0 364 (fun _ => 0)))]) _
  refine wp_run 3 (pc' := 10) (ls' := [some (.inr (.inr (r_Nought0, 0))), some (.inr (.inr (r_Elements_rowsR, a))), some (.inr (.inr (r_Elements_factor, 0))), none, none, none, none]) (st' := [.inr (.inr (r_Elements_rowsR, a)), .inr (.inr (r_Shape0, 0))]) (σ' := srl σ [(r_Elements_factor, (seg (σ r_Elements_factor) 0 364 (fun _ => 0)))]) rfl ?_
  refine wp_fnv (v := .inl (if (sG (fun k => (σ r_Elements_rowsR) (a + k)) (sS n D (D + 1)).toNat) = -1 then -1 else sL n D (sG (fun k => (σ r_Elements_rowsR) (a + k)) (sS n D (D + 1)).toNat))) rfl rfl rfl rfl (ct_X5_topOf_Shape0_Elements_rowsR (srl σ [(r_Elements_factor, (seg (σ r_Elements_factor) 0 364 (fun _ => 0)))]) n D p a hI ga) ?_
  show en_wp k_X3_makePlain 13 [some (.inr (.inr (r_Nought0, 0))), some (.inr (.inr (r_Elements_rowsR, a))), some (.inr (.inr (r_Elements_factor, 0))), none, none, none, none] [.inl (if (sG (fun k => (σ r_Elements_rowsR) (a + k)) (sS n D (D + 1)).toNat) = -1 then -1 else sL n D (sG (fun k => (σ r_Elements_rowsR) (a + k)) (sS n D (D + 1)).toNat))] (srl σ [(r_Elements_factor, (seg (σ r_Elements_factor) 0 364 (fun _ => 0)))]) _
  have q_6 : -1 ≤ (if (sG (fun k => (σ r_Elements_rowsR) (a + k)) (sS n D (D + 1)).toNat) = -1 then -1 else sL n D (sG (fun k => (σ r_Elements_rowsR) (a + k)) (sS n D (D + 1)).toNat)) ∧ (if (sG (fun k => (σ r_Elements_rowsR) (a + k)) (sS n D (D + 1)).toNat) = -1 then -1 else sL n D (sG (fun k => (σ r_Elements_rowsR) (a + k)) (sS n D (D + 1)).toNat)) ≤ 7 := (by have h9 := sL_b n D (sG (fun k => (σ r_Elements_rowsR) (a + k)) (sS n D (D + 1)).toNat); omega)
  have htt := top_t hO (f := (fun x => σ r_Elements_rowsR (a + x))) rfl
  refine wp_run 3 (pc' := 17) (ls' := [some (.inr (.inr (r_Nought0, 0))), some (.inr (.inr (r_Elements_rowsR, a))), some (.inr (.inr (r_Elements_factor, 0))), some (.inl (if (sG (fun k => (σ r_Elements_rowsR) (a + k)) (sS n D (D + 1)).toNat) = -1 then -1 else sL n D (sG (fun k => (σ r_Elements_rowsR) (a + k)) (sS n D (D + 1)).toNat))), some (.inl 0), none, none]) (st' := []) (σ' := srl σ [(r_Elements_factor, (seg (σ r_Elements_factor) 0 364 (fun _ => 0)))]) rfl ?_
  refine wp_mem (srl_eq (l' := [(r_Elements_factor, (seg (σ r_Elements_factor) 0 364 (fun _ => 0))), (r_Nought0_row, (σ r_Nought0_row)), (r_Nought0_reduced, (σ r_Nought0_reduced))]) (And.intro rfl trivial) (And.intro rfl (And.intro rfl (And.intro rfl trivial)))) ?_
  exact L_17 _ 0 (if (sG (fun k => (σ r_Elements_rowsR) (a + k)) (sS n D (D + 1)).toNat) = -1 then -1 else sL n D (sG (fun k => (σ r_Elements_rowsR) (a + k)) (sS n D (D + 1)).toNat)) (seg (σ r_Elements_factor) 0 364 (fun _ => 0)) (σ r_Nought0_row) (σ r_Nought0_reduced) (by omega) htt (fun e h8 h9 => by omega) (fun x h8 h9 => by have := sS_nn (D := D) (k := 0) hO.1.1; exact seg_in0 (g := fun _ => 0) (by omega)) (R97_seg gt (fun _ _ _ => by decide)) gN4 (Nat.lt_succ_self _)
theorem ct_X3_makePlain_Nought0_Elements_spare_Elements_product (σ : en_m) (n : Int) (D : Int) (p : Int) (LW : Int → (Int → Int) → Prop) (hI : cS0 σ n D p) (gN : cNg ((σ r_Nought0_forms)) ((σ r_Nought0_formStart)) ((σ r_Nought0_leading)) ((σ r_Nought0_sizes)) ((σ r_Nought0_row)) n D p LW D) (ga : R97 ((σ r_Elements_spare))) (gap : ∀ x, 0 ≤ x → x < sS n D (D + 1) → (fun x => (σ r_Elements_spare) (x)) x < p) (gt : R97 ((σ r_Elements_product))) : en_ct z_X3_makePlain [.inr (.inr (r_Nought0, 0)), .inr (.inr (r_Elements_spare, 0)), .inr (.inr (r_Elements_product, 0))] σ (fun r σ' => ∃ (f_Elements_product : Int → Int), ∃ (f_Nought0_row : Int → Int), ∃ (f_Nought0_reduced : Int → Int), r = none ∧ σ' = srl σ [(r_Elements_product, f_Elements_product), (r_Nought0_row, f_Nought0_row), (r_Nought0_reduced, f_Nought0_reduced)] ∧ (nfR n D p LW (fun x => (σ r_Elements_spare) (x)) f_Elements_product) ∧ (∀ x, sS n D (D + 1) ≤ x → x < 364 → f_Elements_product x = 0) ∧ (R97 f_Elements_product) ∧ (R97 f_Nought0_row) ∧ (∀ x, 0 ≤ x → x < sS n D (D + 1) → f_Elements_product x < p)) := by
  show en_wp k_X3_makePlain 0 [some (.inr (.inr (r_Nought0, 0))), some (.inr (.inr (r_Elements_spare, 0))), some (.inr (.inr (r_Elements_product, 0))), none, none, none, none] [] (srl σ []) (fun r σ' => ∃ (f_Elements_product : Int → Int), ∃ (f_Nought0_row : Int → Int), ∃ (f_Nought0_reduced : Int → Int), r = none ∧ σ' = srl σ [(r_Elements_product, f_Elements_product), (r_Nought0_row, f_Nought0_row), (r_Nought0_reduced, f_Nought0_reduced)] ∧ (nfR n D p LW (fun x => (σ r_Elements_spare) (x)) f_Elements_product) ∧ (∀ x, sS n D (D + 1) ≤ x → x < 364 → f_Elements_product x = 0) ∧ (R97 f_Elements_product) ∧ (R97 f_Nought0_row) ∧ (∀ x, 0 ≤ x → x < sS n D (D + 1) → f_Elements_product x < p))
  have hI2 := hI
  obtain ⟨hO, hn, hD, hp, hm, hst, hln⟩ := hI2
  obtain ⟨⟨hO1, hO2⟩, ⟨hO3, hO4⟩, hO5, hO6, hO7, hO8⟩ := id hO
  have hAb := sS_b (k := D + 1) hO
  have gap2 : ∀ x, 0 ≤ x → x < sS n D (D + 1) → σ r_Elements_spare (x) < p := gap
  obtain ⟨gN1, gN2, gN3, gN4, gN5, gN6⟩ := id gN
  have L_17 : ∀ (N : Nat) (d : Int) (t : Int) (C : Int → Int) (A : Int → Int) (X : Int → Int), (0 ≤ d ∧ d ≤ t + 1) → ((-1 ≤ t ∧ t ≤ D) ∧ ∀ x, 0 ≤ x → x < sS n D (D + 1) → t < sL n D x → (fun x => σ r_Elements_spare (x)) x = 0) → (∀ e, 0 ≤ e → e < d → isNF p (sW n D e) (nV n D p LW e.toNat) (fun j => (fun x => σ r_Elements_spare (x)) (sS n D e + j)) (fun j => C (sS n D e + j))) → (∀ x, sS n D d ≤ x → x < 364 → C x = 0) → (R97 C) → (R97 A) → (t + 1 - d).toNat < N → en_wp k_X3_makePlain 17 [some (.inr (.inr (r_Nought0, 0))), some (.inr (.inr (r_Elements_spare, 0))), some (.inr (.inr (r_Elements_product, 0))), some (.inl t), some (.inl d), none, none] [] (srl σ [(r_Elements_product, C), (r_Nought0_row, A), (r_Nought0_reduced, X)]) (fun r σ' => ∃ (f_Elements_product : Int → Int), ∃ (f_Nought0_row : Int → Int), ∃ (f_Nought0_reduced : Int → Int), r = none ∧ σ' = srl σ [(r_Elements_product, f_Elements_product), (r_Nought0_row, f_Nought0_row), (r_Nought0_reduced, f_Nought0_reduced)] ∧ (nfR n D p LW (fun x => (σ r_Elements_spare) (x)) f_Elements_product) ∧ (∀ x, sS n D (D + 1) ≤ x → x < 364 → f_Elements_product x = 0) ∧ (R97 f_Elements_product) ∧ (R97 f_Nought0_row) ∧ (∀ x, 0 ≤ x → x < sS n D (D + 1) → f_Elements_product x < p)) := by
    intro N
    induction N with
    | zero => intro d t C A X; intros; omega
    | succ N ih_17 =>
      intro d t C A X hd ht hN hT hC3 hA hN_17
      have hWb := sW_b (k := d) hO
      have hSb := sS_b (k := d) hO
      have hSs := sS_succ (n := n) (D := D) (k := d) hd.1
      have hSb1 := sS_b (k := d + 1) hO
      have hSm : d ≤ D → sS n D (d + 1) ≤ sS n D (D + 1) := fun h9 => sS_mono hO.1.1 (by omega)
      refine wp_run 2 (pc' := 20) (ls' := [some (.inr (.inr (r_Nought0, 0))), some (.inr (.inr (r_Elements_spare, 0))), some (.inr (.inr (r_Elements_product, 0))), some (.inl t), some (.inl d), none, none]) (st' := [.inl t, .inl d]) (σ' := srl σ [(r_Elements_product, C), (r_Nought0_row, A), (r_Nought0_reduced, X)]) rfl ?_
      refine wp_ic_gt rfl (by omega) (by omega) (fun h_1 => ?_) (fun h_1 => ?_)
      · show en_wp k_X3_makePlain 85 [some (.inr (.inr (r_Nought0, 0))), some (.inr (.inr (r_Elements_spare, 0))), some (.inr (.inr (r_Elements_product, 0))), some (.inl t), some (.inl d), none, none] [] (srl σ [(r_Elements_product, C), (r_Nought0_row, A), (r_Nought0_reduced, X)]) _
        exact wp_vret rfl ⟨C, A, X, rfl, srl_eq (l' := [(r_Elements_product, C), (r_Nought0_row, A), (r_Nought0_reduced, X)]) (And.intro rfl (And.intro rfl (And.intro rfl trivial))) (And.intro rfl (And.intro rfl (And.intro rfl trivial))), (by have hf := mk_fin hO ht (by omega) hd.1 hN hT; exact ⟨hf, fun x h8 h9 => by have h7 := sS_mono (D := D) hO.1.1 (show d ≤ D + 1 by omega); exact hT x (by omega) h9, hC3, hA, fun x h8 h9 => by obtain ⟨e, w, a1, a2, a3, a4, a5⟩ := sL_ex hO h8 h9; rw [a5]; exact ((hf e a1 a2).2.1 w a3 a4).2⟩)⟩
      · show en_wp k_X3_makePlain 23 [some (.inr (.inr (r_Nought0, 0))), some (.inr (.inr (r_Elements_spare, 0))), some (.inr (.inr (r_Elements_product, 0))), some (.inl t), some (.inl d), none, none] [] (srl σ [(r_Elements_product, C), (r_Nought0_row, A), (r_Nought0_reduced, X)]) _
        refine wp_run 3 (pc' := 29) (ls' := [some (.inr (.inr (r_Nought0, 0))), some (.inr (.inr (r_Elements_spare, 0))), some (.inr (.inr (r_Elements_product, 0))), some (.inl t), some (.inl d), none, none]) (st' := [.inl d, .inr (.inr (r_Shape0, 0))]) (σ' := srl σ [(r_Elements_product, C), (r_Nought0_row, A), (r_Nought0_reduced, X)]) rfl ?_
        refine wp_fnv (v := .inl (sW n D d)) rfl rfl rfl rfl (ct_X5_wordsOf_Shape0 (srl σ [(r_Elements_product, C), (r_Nought0_row, A), (r_Nought0_reduced, X)]) n D p d hI (by omega)) ?_
        show en_wp k_X3_makePlain 32 [some (.inr (.inr (r_Nought0, 0))), some (.inr (.inr (r_Elements_spare, 0))), some (.inr (.inr (r_Elements_product, 0))), some (.inl t), some (.inl d), none, none] [.inl (sW n D d)] (srl σ [(r_Elements_product, C), (r_Nought0_row, A), (r_Nought0_reduced, X)]) _
        have q_2 : 0 ≤ sW n D d ∧ sW n D d ≤ 256 := sW_b hO
        refine wp_run 4 (pc' := 40) (ls' := [some (.inr (.inr (r_Nought0, 0))), some (.inr (.inr (r_Elements_spare, 0))), some (.inr (.inr (r_Elements_product, 0))), some (.inl t), some (.inl d), some (.inl (sW n D d)), none]) (st' := [.inl d, .inr (.inr (r_Shape0, 0))]) (σ' := srl σ [(r_Elements_product, C), (r_Nought0_row, A), (r_Nought0_reduced, X)]) rfl ?_
        refine wp_fnv (v := .inl (sS n D d)) rfl rfl rfl rfl (ct_X5_startOf_Shape0_p (srl σ [(r_Elements_product, C), (r_Nought0_row, A), (r_Nought0_reduced, X)]) n D p d hI (by omega)) ?_
        show en_wp k_X3_makePlain 43 [some (.inr (.inr (r_Nought0, 0))), some (.inr (.inr (r_Elements_spare, 0))), some (.inr (.inr (r_Elements_product, 0))), some (.inl t), some (.inl d), some (.inl (sW n D d)), none] [.inl (sS n D d)] (srl σ [(r_Elements_product, C), (r_Nought0_row, A), (r_Nought0_reduced, X)]) _
        have q_3 : 0 ≤ sS n D d ∧ sS n D d ≤ 364 := sS_b hO
        refine wp_run 7 (pc' := 55) (ls' := [some (.inr (.inr (r_Nought0, 0))), some (.inr (.inr (r_Elements_spare, 0))), some (.inr (.inr (r_Elements_product, 0))), some (.inl t), some (.inl d), some (.inl (sW n D d)), some (.inl (sS n D d))]) (st' := [.inl (sW n D d), .inl 0, .inr (.inr (r_Nought0_row, 0)), .inl (sS n D d), .inr (.inr (r_Elements_spare, 0))]) (σ' := srl σ [(r_Elements_product, C), (r_Nought0_row, A), (r_Nought0_reduced, X)]) rfl ?_
        refine wp_copy rfl rfl rfl rfl (by omega) (by omega) (by omega) (wp_wr (l2 := [(r_Elements_product, C), (r_Nought0_row, (en_cpy (σ r_Elements_spare) A (0 + (sS n D d)) (0 + 0) (sW n D d))), (r_Nought0_reduced, X)]) rfl ?_)
        show en_wp k_X3_makePlain 58 [some (.inr (.inr (r_Nought0, 0))), some (.inr (.inr (r_Elements_spare, 0))), some (.inr (.inr (r_Elements_product, 0))), some (.inl t), some (.inl d), some (.inl (sW n D d)), some (.inl (sS n D d))] [] (srl σ [(r_Elements_product, C), (r_Nought0_row, (en_cpy (σ r_Elements_spare) A (0 + (sS n D d)) (0 + 0) (sW n D d))), (r_Nought0_reduced, X)]) _
        refine wp_run 3 (pc' := 63) (ls' := [some (.inr (.inr (r_Nought0, 0))), some (.inr (.inr (r_Elements_spare, 0))), some (.inr (.inr (r_Elements_product, 0))), some (.inl t), some (.inl d), some (.inl (sW n D d)), some (.inl (sS n D d))]) (st' := [.inl (sW n D d), .inl d, .inr (.inr (r_Nought0, 0))]) (σ' := srl σ [(r_Elements_product, C), (r_Nought0_row, (en_cpy (σ r_Elements_spare) A (0 + (sS n D d)) (0 + 0) (sW n D d))), (r_Nought0_reduced, X)]) rfl ?_
        have hcd := (gN6 d hd.1 (by omega)).2.2.1
        have hgs := (gN6 d hd.1 (by omega)).1
        have hrx : ∀ j, 0 ≤ j → j < sW n D d → en_cpy (σ r_Elements_spare) A (0 + sS n D d) (0 + 0) (sW n D d) j = (fun x => σ r_Elements_spare (x)) (sS n D d + j) := fun j h8 h9 => by
          rw [cpy_new, show (0 : Int) + 0 = 0 from rfl, seg_in0 ⟨h8, h9⟩]
          show σ r_Elements_spare (0 + sS n D d + j) = σ r_Elements_spare ((sS n D d + j))
          rw [Int.zero_add]
        have hA2 : R97 (en_cpy (σ r_Elements_spare) A (0 + sS n D d) (0 + 0) (sW n D d)) := by
          rw [cpy_new]
          exact R97_seg hA (fun _ _ _ => ga _)
        refine wp_callv rfl rfl rfl rfl (ct_X3_reduce_Nought0 (srl σ [(r_Elements_product, C), (r_Nought0_row, (en_cpy (σ r_Elements_spare) A (0 + (sS n D d)) (0 + 0) (sW n D d))), (r_Nought0_reduced, X)]) n D p d (sW n D d) hI (by omega) (by omega) hgs hA2 gN2 hcd.2.1) ?_
        rintro _ _ ⟨f_4, rfl, rfl, p_5⟩
        have p_5 : ∀ x, 0 ≤ x → x < sW n D d → f_4 x = nfs (fun w k => (σ r_Nought0_forms) (sQ n D d + w * sW n D d + k)) (sW n D d) ((en_cpy (σ r_Elements_spare) A (0 + (sS n D d)) (0 + 0) (sW n D d))) x % p := p_5
        refine wp_bk (l2 := [(r_Elements_product, C), (r_Nought0_row, (en_cpy (σ r_Elements_spare) A (0 + (sS n D d)) (0 + 0) (sW n D d))), (r_Nought0_reduced, f_4)]) rfl rfl ?_
        show en_wp k_X3_makePlain 66 [some (.inr (.inr (r_Nought0, 0))), some (.inr (.inr (r_Elements_spare, 0))), some (.inr (.inr (r_Elements_product, 0))), some (.inl t), some (.inl d), some (.inl (sW n D d)), some (.inl (sS n D d))] [] (srl σ [(r_Elements_product, C), (r_Nought0_row, (en_cpy (σ r_Elements_spare) A (0 + (sS n D d)) (0 + 0) (sW n D d))), (r_Nought0_reduced, f_4)]) _
        have hred := p_5
        have hnf : isNF p (sW n D d) (nV n D p LW d.toNat) (fun j => (fun x => σ r_Elements_spare (x)) (sS n D d + j)) (fun k => nfs _ (sW n D d) _ k % p) := nf_src (cD_sub hcd) (cD_nf hcd (by omega) _) hrx
        refine wp_run 6 (pc' := 76) (ls' := [some (.inr (.inr (r_Nought0, 0))), some (.inr (.inr (r_Elements_spare, 0))), some (.inr (.inr (r_Elements_product, 0))), some (.inl t), some (.inl d), some (.inl (sW n D d)), some (.inl (sS n D d))]) (st' := [.inl (sW n D d), .inl (sS n D d), .inr (.inr (r_Elements_product, 0)), .inl 0, .inr (.inr (r_Nought0_reduced, 0))]) (σ' := srl σ [(r_Elements_product, C), (r_Nought0_row, (en_cpy (σ r_Elements_spare) A (0 + (sS n D d)) (0 + 0) (sW n D d))), (r_Nought0_reduced, f_4)]) rfl ?_
        refine wp_copy rfl rfl rfl rfl (by omega) (by omega) (by omega) (wp_wr (l2 := [(r_Elements_product, (en_cpy f_4 C (0 + 0) (0 + (sS n D d)) (sW n D d))), (r_Nought0_row, (en_cpy (σ r_Elements_spare) A (0 + (sS n D d)) (0 + 0) (sW n D d))), (r_Nought0_reduced, f_4)]) rfl ?_)
        show en_wp k_X3_makePlain 79 [some (.inr (.inr (r_Nought0, 0))), some (.inr (.inr (r_Elements_spare, 0))), some (.inr (.inr (r_Elements_product, 0))), some (.inl t), some (.inl d), some (.inl (sW n D d)), some (.inl (sS n D d))] [] (srl σ [(r_Elements_product, (en_cpy f_4 C (0 + 0) (0 + (sS n D d)) (sW n D d))), (r_Nought0_row, (en_cpy (σ r_Elements_spare) A (0 + (sS n D d)) (0 + 0) (sW n D d))), (r_Nought0_reduced, f_4)]) _
        refine wp_run 2 (pc' := 17) (ls' := [some (.inr (.inr (r_Nought0, 0))), some (.inr (.inr (r_Elements_spare, 0))), some (.inr (.inr (r_Elements_product, 0))), some (.inl t), some (.inl (d + 1)), some (.inl (sW n D d)), some (.inl (sS n D d))]) (st' := []) (σ' := srl σ [(r_Elements_product, (en_cpy f_4 C (0 + 0) (0 + (sS n D d)) (sW n D d))), (r_Nought0_row, (en_cpy (σ r_Elements_spare) A (0 + (sS n D d)) (0 + 0) (sW n D d))), (r_Nought0_reduced, f_4)]) rfl ?_
        refine wp_sub (l := [some (.inr (.inr (r_Nought0, 0))), some (.inr (.inr (r_Elements_spare, 0))), some (.inr (.inr (r_Elements_product, 0))), some (.inl t), some (.inl (d + 1)), none, none]) (And.intro rfl (And.intro rfl (And.intro rfl (And.intro rfl (And.intro rfl trivial))))) ?_
        exact ih_17 (d + 1) t (en_cpy f_4 C (0 + 0) (0 + (sS n D d)) (sW n D d)) (en_cpy (σ r_Elements_spare) A (0 + (sS n D d)) (0 + 0) (sW n D d)) f_4 (by omega) ht (fun e h8 h9 => by rcases Int.lt_or_eq_of_le (show e ≤ d by omega) with h5 | h5 <;> first | exact nf_dst (hN e h8 h5) (fun j a1 a2 => by have h1 := sS_word hO h8 ⟨a1, a2⟩; have h2 := sS_mono (D := D) hO.1.1 (show e + 1 ≤ d by omega); rw [cpy_new, seg_out (by omega)]) (nV_subI (by omega) (by omega) h8) | (rw [h5]; exact nf_dst hnf (fun j a1 a2 => by rw [cpy_at ⟨a1, a2⟩, hred j a1 a2]) (nV_subI (by omega) (by omega) (by omega)))) (fun x h8 h9 => by rw [cpy_new, seg_out (by omega)]; exact hT x (by omega) h9) (by rw [cpy_new]; exact R97_seg hC3 (fun x h8 h9 => by rw [Int.zero_add, Int.zero_add, hred x h8 h9]; have := @sR_lt p (nfs (fun w k => σ r_Nought0_forms (sQ n D d + w * sW n D d + k)) (sW n D d) (en_cpy (σ r_Elements_spare) A (0 + sS n D d) (0 + 0) (sW n D d)) x) hO.2.2.2; omega)) hA2 (by omega)
  refine wp_run 2 (pc' := 2) (ls' := [some (.inr (.inr (r_Nought0, 0))), some (.inr (.inr (r_Elements_spare, 0))), some (.inr (.inr (r_Elements_product, 0))), none, none, none, none]) (st' := [.inl 0, .inr (.inr (r_Elements_product, 0))]) (σ' := srl σ []) rfl ?_
  refine wp_calls rfl rfl rfl rfl rfl (ct_J7_fill_53178_Elements_product σ 0) ?_
  rintro _ _ ⟨rfl, rfl⟩
  show en_wp k_X3_makePlain 5 [some (.inr (.inr (r_Nought0, 0))), some (.inr (.inr (r_Elements_spare, 0))), some (.inr (.inr (r_Elements_product, 0))), none, none, none, none] [] (srl σ [(r_Elements_product, (seg (σ r_Elements_product) 0 364 (fun _ => 0)))]) _
  refine wp_run 3 (pc' := 10) (ls' := [some (.inr (.inr (r_Nought0, 0))), some (.inr (.inr (r_Elements_spare, 0))), some (.inr (.inr (r_Elements_product, 0))), none, none, none, none]) (st' := [.inr (.inr (r_Elements_spare, 0)), .inr (.inr (r_Shape0, 0))]) (σ' := srl σ [(r_Elements_product, (seg (σ r_Elements_product) 0 364 (fun _ => 0)))]) rfl ?_
  refine wp_fnv (v := .inl (if (sG (fun k => (σ r_Elements_spare) k) (sS n D (D + 1)).toNat) = -1 then -1 else sL n D (sG (fun k => (σ r_Elements_spare) k) (sS n D (D + 1)).toNat))) rfl rfl rfl rfl (ct_X5_topOf_Shape0_Elements_spare (srl σ [(r_Elements_product, (seg (σ r_Elements_product) 0 364 (fun _ => 0)))]) n D p hI ga) ?_
  show en_wp k_X3_makePlain 13 [some (.inr (.inr (r_Nought0, 0))), some (.inr (.inr (r_Elements_spare, 0))), some (.inr (.inr (r_Elements_product, 0))), none, none, none, none] [.inl (if (sG (fun k => (σ r_Elements_spare) k) (sS n D (D + 1)).toNat) = -1 then -1 else sL n D (sG (fun k => (σ r_Elements_spare) k) (sS n D (D + 1)).toNat))] (srl σ [(r_Elements_product, (seg (σ r_Elements_product) 0 364 (fun _ => 0)))]) _
  have q_6 : -1 ≤ (if (sG (fun k => (σ r_Elements_spare) k) (sS n D (D + 1)).toNat) = -1 then -1 else sL n D (sG (fun k => (σ r_Elements_spare) k) (sS n D (D + 1)).toNat)) ∧ (if (sG (fun k => (σ r_Elements_spare) k) (sS n D (D + 1)).toNat) = -1 then -1 else sL n D (sG (fun k => (σ r_Elements_spare) k) (sS n D (D + 1)).toNat)) ≤ 7 := (by have h9 := sL_b n D (sG (fun k => (σ r_Elements_spare) k) (sS n D (D + 1)).toNat); omega)
  have htt := top_t hO (f := (fun x => σ r_Elements_spare (x))) rfl
  refine wp_run 3 (pc' := 17) (ls' := [some (.inr (.inr (r_Nought0, 0))), some (.inr (.inr (r_Elements_spare, 0))), some (.inr (.inr (r_Elements_product, 0))), some (.inl (if (sG (fun k => (σ r_Elements_spare) k) (sS n D (D + 1)).toNat) = -1 then -1 else sL n D (sG (fun k => (σ r_Elements_spare) k) (sS n D (D + 1)).toNat))), some (.inl 0), none, none]) (st' := []) (σ' := srl σ [(r_Elements_product, (seg (σ r_Elements_product) 0 364 (fun _ => 0)))]) rfl ?_
  refine wp_mem (srl_eq (l' := [(r_Elements_product, (seg (σ r_Elements_product) 0 364 (fun _ => 0))), (r_Nought0_row, (σ r_Nought0_row)), (r_Nought0_reduced, (σ r_Nought0_reduced))]) (And.intro rfl trivial) (And.intro rfl (And.intro rfl (And.intro rfl trivial)))) ?_
  exact L_17 _ 0 (if (sG (fun k => (σ r_Elements_spare) k) (sS n D (D + 1)).toNat) = -1 then -1 else sL n D (sG (fun k => (σ r_Elements_spare) k) (sS n D (D + 1)).toNat)) (seg (σ r_Elements_product) 0 364 (fun _ => 0)) (σ r_Nought0_row) (σ r_Nought0_reduced) (by omega) htt (fun e h8 h9 => by omega) (fun x h8 h9 => by have := sS_nn (D := D) (k := 0) hO.1.1; exact seg_in0 (g := fun _ => 0) (by omega)) (R97_seg gt (fun _ _ _ => by decide)) gN4 (Nat.lt_succ_self _)
