/-! contracts of methods, walked (written by wip/whole/walk.py from the annotations) -/
theorem ct_X12_in (σ : en_m) (v : Int) (lo : Int) (hi : Int) (h1 : i32 v) (h2 : i32 lo) (h3 : i32 hi) : en_fn z_X12_in [.inl v, .inl lo, .inl hi] σ (.inl (bI (lo ≤ v ∧ v ≤ hi))) := by
  show en_wp k_X12_in 0 [some (.inl v), some (.inl lo), some (.inl hi)] [] (srl σ []) (fun r σ' => r = some (.inl (bI (lo ≤ v ∧ v ≤ hi))) ∧ σ' = σ)
  refine wp_run 2 (pc' := 2) (ls' := [some (.inl v), some (.inl lo), some (.inl hi)]) (st' := [.inl lo, .inl v]) (σ' := srl σ []) rfl ?_
  refine wp_ic_lt rfl (by omega) (by omega) (fun h_1 => ?_) (fun h_1 => ?_)
  · show en_wp k_X12_in 14 [some (.inl v), some (.inl lo), some (.inl hi)] [] (srl σ []) _
    refine wp_run 1 (pc' := 15) (ls' := [some (.inl v), some (.inl lo), some (.inl hi)]) (st' := [.inl 0]) (σ' := srl σ []) rfl ?_
    exact wp_zret rfl (.inl rfl) ⟨(by first | rw [bI_t (by omega)] | rw [bI_f (by omega)]), rfl⟩
  · show en_wp k_X12_in 5 [some (.inl v), some (.inl lo), some (.inl hi)] [] (srl σ []) _
    refine wp_run 2 (pc' := 7) (ls' := [some (.inl v), some (.inl lo), some (.inl hi)]) (st' := [.inl hi, .inl v]) (σ' := srl σ []) rfl ?_
    refine wp_ic_gt rfl (by omega) (by omega) (fun h_2 => ?_) (fun h_2 => ?_)
    · show en_wp k_X12_in 14 [some (.inl v), some (.inl lo), some (.inl hi)] [] (srl σ []) _
      refine wp_run 1 (pc' := 15) (ls' := [some (.inl v), some (.inl lo), some (.inl hi)]) (st' := [.inl 0]) (σ' := srl σ []) rfl ?_
      exact wp_zret rfl (.inl rfl) ⟨(by first | rw [bI_t (by omega)] | rw [bI_f (by omega)]), rfl⟩
    · show en_wp k_X12_in 10 [some (.inl v), some (.inl lo), some (.inl hi)] [] (srl σ []) _
      refine wp_run 2 (pc' := 15) (ls' := [some (.inl v), some (.inl lo), some (.inl hi)]) (st' := [.inl 1]) (σ' := srl σ []) rfl ?_
      exact wp_zret rfl (.inr rfl) ⟨(by first | rw [bI_t (by omega)] | rw [bI_f (by omega)]), rfl⟩
theorem ct_X12_wide (σ : en_m) (n : Int) (D : Int) (p : Int) (d : Int) (hI : mI σ n D p) (h1 : 0 ≤ d ∧ d ≤ 8) : en_fn z_X12_wide [.inr (.inr (r_Md, 0)), .inl d] σ (.inl (sW n D d)) := by
  show en_wp k_X12_wide 0 [some (.inr (.inr (r_Md, 0))), some (.inl d)] [] (srl σ []) (fun r σ' => r = some (.inl (sW n D d)) ∧ σ' = σ)
  have hI2 := hI
  obtain ⟨hO, hL, hn, hD, hp, hpw, hst⟩ := hI2
  obtain ⟨⟨hO1, hO2⟩, ⟨hO3, hO4⟩, hO5, hO6, hO7, hO8⟩ := id hO
  refine wp_run 8 (pc' := 13) (ls' := [some (.inr (.inr (r_Md, 0))), some (.inl d)]) (st' := [.inl ((9 * (σ r_Md_live 0)) + d), .inr (.inr (r_Md_powers, 0))]) (σ' := srl σ []) rfl ?_
  refine wp_iald0 rfl rfl (by omega) ?_
  show en_wp k_X12_wide 14 [some (.inr (.inr (r_Md, 0))), some (.inl d)] [.inl (σ r_Md_powers ((9 * (σ r_Md_live 0)) + d))] (srl σ []) _
  exact wp_iret rfl ⟨(by rw [hpw d (by omega) (by omega)]), rfl⟩
theorem ct_X12_start (σ : en_m) (n : Int) (D : Int) (p : Int) (d : Int) (hI : mI σ n D p) (h1 : 0 ≤ d ∧ d ≤ 8) : en_fn z_X12_start [.inr (.inr (r_Md, 0)), .inl d] σ (.inl (sS n D d)) := by
  show en_wp k_X12_start 0 [some (.inr (.inr (r_Md, 0))), some (.inl d)] [] (srl σ []) (fun r σ' => r = some (.inl (sS n D d)) ∧ σ' = σ)
  have hI2 := hI
  obtain ⟨hO, hL, hn, hD, hp, hpw, hst⟩ := hI2
  obtain ⟨⟨hO1, hO2⟩, ⟨hO3, hO4⟩, hO5, hO6, hO7, hO8⟩ := id hO
  refine wp_run 8 (pc' := 13) (ls' := [some (.inr (.inr (r_Md, 0))), some (.inl d)]) (st' := [.inl ((9 * (σ r_Md_live 0)) + d), .inr (.inr (r_Md_starts, 0))]) (σ' := srl σ []) rfl ?_
  refine wp_iald0 rfl rfl (by omega) ?_
  show en_wp k_X12_start 14 [some (.inr (.inr (r_Md, 0))), some (.inl d)] [.inl (σ r_Md_starts ((9 * (σ r_Md_live 0)) + d))] (srl σ []) _
  exact wp_iret rfl ⟨(by rw [hst d (by omega) (by omega)]), rfl⟩
theorem ct_X12_all (σ : en_m) (n : Int) (D : Int) (p : Int) (hI : mI σ n D p) : en_fn z_X12_all [.inr (.inr (r_Md, 0))] σ (.inl (sS n D (D + 1))) := by
  show en_wp k_X12_all 0 [some (.inr (.inr (r_Md, 0)))] [] (srl σ []) (fun r σ' => r = some (.inl (sS n D (D + 1))) ∧ σ' = σ)
  have hI2 := hI
  obtain ⟨hO, hL, hn, hD, hp, hpw, hst⟩ := hI2
  obtain ⟨⟨hO1, hO2⟩, ⟨hO3, hO4⟩, hO5, hO6, hO7, hO8⟩ := id hO
  refine wp_run 10 (pc' := 19) (ls' := [some (.inr (.inr (r_Md, 0)))]) (st' := [.inl (σ r_Md_live 0), .inr (.inr (r_Md_degree, 0)), .inl (9 * (σ r_Md_live 0)), .inr (.inr (r_Md_starts, 0))]) (σ' := srl σ []) rfl ?_
  refine wp_iald0 rfl rfl (by omega) ?_
  show en_wp k_X12_all 20 [some (.inr (.inr (r_Md, 0)))] [.inl (σ r_Md_degree (σ r_Md_live 0)), .inl (9 * (σ r_Md_live 0)), .inr (.inr (r_Md_starts, 0))] (srl σ []) _
  refine wp_run 3 (pc' := 23) (ls' := [some (.inr (.inr (r_Md, 0)))]) (st' := [.inl (((9 * (σ r_Md_live 0)) + (σ r_Md_degree (σ r_Md_live 0))) + 1), .inr (.inr (r_Md_starts, 0))]) (σ' := srl σ []) rfl ?_
  refine wp_iald0 rfl rfl (by omega) ?_
  show en_wp k_X12_all 24 [some (.inr (.inr (r_Md, 0)))] [.inl (σ r_Md_starts (((9 * (σ r_Md_live 0)) + (σ r_Md_degree (σ r_Md_live 0))) + 1))] (srl σ []) _
  exact wp_iret rfl ⟨(by rw [hD, show 9 * σ r_Md_live 0 + D + 1 = 9 * σ r_Md_live 0 + (D + 1) by omega, hst _ (by omega) (by omega)]), rfl⟩
theorem ct_X12_rest (σ : en_m) (n : Int) (D : Int) (p : Int) (v : Int) (hI : mI σ n D p) (h1 : i64 v) : en_fn z_X12_rest [.inr (.inr (r_Md, 0)), .inr (.inl v)] σ (.inl (v % p)) := by
  show en_wp k_X12_rest 0 [some (.inr (.inr (r_Md, 0))), some (.inr (.inl v)), none, none, none] [] (srl σ []) (fun r σ' => r = some (.inl (v % p)) ∧ σ' = σ)
  have hI2 := hI
  obtain ⟨hO, hL, hn, hD, hp, hpw, hst⟩ := hI2
  obtain ⟨⟨hO1, hO2⟩, ⟨hO3, hO4⟩, hO5, hO6, hO7, hO8⟩ := id hO
  have hp0 : 0 < σ r_Md_prime (σ r_Md_live 0) := by omega
  have hb := sR_tb (v := v) hp0
  refine wp_run 5 (pc' := 9) (ls' := [some (.inr (.inr (r_Md, 0))), some (.inr (.inl v)), none, none, none]) (st' := [.inl (σ r_Md_live 0), .inr (.inr (r_Md_prime, 0)), .inr (.inl v)]) (σ' := srl σ []) rfl ?_
  refine wp_iald0 rfl rfl (by omega) ?_
  show en_wp k_X12_rest 10 [some (.inr (.inr (r_Md, 0))), some (.inr (.inl v)), none, none, none] [.inl (σ r_Md_prime (σ r_Md_live 0)), .inr (.inl v)] (srl σ []) _
  refine wp_i2l rfl (by omega) ?_
  show en_wp k_X12_rest 11 [some (.inr (.inr (r_Md, 0))), some (.inr (.inl v)), none, none, none] [.inr (.inl (σ r_Md_prime (σ r_Md_live 0))), .inr (.inl v)] (srl σ []) _
  refine wp_lrem rfl (by omega) (by omega) (by omega) ?_
  show en_wp k_X12_rest 12 [some (.inr (.inr (r_Md, 0))), some (.inr (.inl v)), none, none, none] [.inr (.inl (v.tmod (σ r_Md_prime (σ r_Md_live 0))))] (srl σ []) _
  refine wp_run 3 (pc' := 15) (ls' := [some (.inr (.inr (r_Md, 0))), some (.inr (.inl v)), none, some (.inr (.inl (v.tmod (σ r_Md_prime (σ r_Md_live 0))))), none]) (st' := [.inr (.inl 0), .inr (.inl (v.tmod (σ r_Md_prime (σ r_Md_live 0))))]) (σ' := srl σ []) rfl ?_
  refine wp_lc_ge rfl (by omega) (by omega) rfl (fun h_1 => ?_) (fun h_1 => ?_)
  · show en_wp k_X12_rest 34 [some (.inr (.inr (r_Md, 0))), some (.inr (.inl v)), none, some (.inr (.inl (v.tmod (σ r_Md_prime (σ r_Md_live 0))))), none] [] (srl σ []) _
    refine wp_run 2 (pc' := 36) (ls' := [some (.inr (.inr (r_Md, 0))), some (.inr (.inl v)), none, some (.inr (.inl (v.tmod (σ r_Md_prime (σ r_Md_live 0))))), none]) (st' := [.inl (v.tmod (σ r_Md_prime (σ r_Md_live 0)))]) (σ' := srl σ []) rfl ?_
    exact wp_iret rfl ⟨(by first | rw [sR_n hp0 (by assumption), hp] | rw [sR_p hp0 (by assumption), hp]), rfl⟩
  · show en_wp k_X12_rest 19 [some (.inr (.inr (r_Md, 0))), some (.inr (.inl v)), none, some (.inr (.inl (v.tmod (σ r_Md_prime (σ r_Md_live 0))))), none] [] (srl σ []) _
    refine wp_run 5 (pc' := 28) (ls' := [some (.inr (.inr (r_Md, 0))), some (.inr (.inl v)), none, some (.inr (.inl (v.tmod (σ r_Md_prime (σ r_Md_live 0))))), none]) (st' := [.inl (σ r_Md_live 0), .inr (.inr (r_Md_prime, 0)), .inr (.inl (v.tmod (σ r_Md_prime (σ r_Md_live 0))))]) (σ' := srl σ []) rfl ?_
    refine wp_iald0 rfl rfl (by omega) ?_
    show en_wp k_X12_rest 29 [some (.inr (.inr (r_Md, 0))), some (.inr (.inl v)), none, some (.inr (.inl (v.tmod (σ r_Md_prime (σ r_Md_live 0))))), none] [.inl (σ r_Md_prime (σ r_Md_live 0)), .inr (.inl (v.tmod (σ r_Md_prime (σ r_Md_live 0))))] (srl σ []) _
    refine wp_i2l rfl (by omega) ?_
    show en_wp k_X12_rest 30 [some (.inr (.inr (r_Md, 0))), some (.inr (.inl v)), none, some (.inr (.inl (v.tmod (σ r_Md_prime (σ r_Md_live 0))))), none] [.inr (.inl (σ r_Md_prime (σ r_Md_live 0))), .inr (.inl (v.tmod (σ r_Md_prime (σ r_Md_live 0))))] (srl σ []) _
    refine wp_run 3 (pc' := 36) (ls' := [some (.inr (.inr (r_Md, 0))), some (.inr (.inl v)), none, some (.inr (.inl (v.tmod (σ r_Md_prime (σ r_Md_live 0))))), none]) (st' := [.inl ((v.tmod (σ r_Md_prime (σ r_Md_live 0))) + (σ r_Md_prime (σ r_Md_live 0)))]) (σ' := srl σ []) rfl ?_
    exact wp_iret rfl ⟨(by first | rw [sR_n hp0 (by assumption), hp] | rw [sR_p hp0 (by assumption), hp]), rfl⟩
theorem ct_X12_isDegree (σ : en_m) (n : Int) (D : Int) (p : Int) (d : Int) (hI : mI σ n D p) (h1 : i32 d) : en_fn z_X12_isDegree [.inr (.inr (r_Md, 0)), .inl d] σ (.inl (bI (0 ≤ d ∧ d ≤ D))) := by
  show en_wp k_X12_isDegree 0 [some (.inr (.inr (r_Md, 0))), some (.inl d)] [] (srl σ []) (fun r σ' => r = some (.inl (bI (0 ≤ d ∧ d ≤ D))) ∧ σ' = σ)
  have hI2 := hI
  obtain ⟨hO, hL, hn, hD, hp, hpw, hst⟩ := hI2
  obtain ⟨⟨hO1, hO2⟩, ⟨hO3, hO4⟩, hO5, hO6, hO7, hO8⟩ := id hO
  refine wp_run 6 (pc' := 10) (ls' := [some (.inr (.inr (r_Md, 0))), some (.inl d)]) (st' := [.inl (σ r_Md_live 0), .inr (.inr (r_Md_degree, 0)), .inl 0, .inl d]) (σ' := srl σ []) rfl ?_
  refine wp_iald0 rfl rfl (by omega) ?_
  show en_wp k_X12_isDegree 11 [some (.inr (.inr (r_Md, 0))), some (.inl d)] [.inl (σ r_Md_degree (σ r_Md_live 0)), .inl 0, .inl d] (srl σ []) _
  refine wp_fns (v := .inl (bI (0 ≤ d ∧ d ≤ (σ r_Md_degree (σ r_Md_live 0))))) rfl rfl rfl rfl rfl (ct_X12_in σ d 0 (σ r_Md_degree (σ r_Md_live 0)) (by omega) (by omega) (by omega)) ?_
  show en_wp k_X12_isDegree 14 [some (.inr (.inr (r_Md, 0))), some (.inl d)] [.inl (bI (0 ≤ d ∧ d ≤ (σ r_Md_degree (σ r_Md_live 0))))] (srl σ []) _
  exact wp_zret rfl (bI_01 _) ⟨(by rw [hD]), rfl⟩
theorem ct_X12_isElement (σ : en_m) (e : Int) (h1 : i32 e) : en_fn z_X12_isElement [.inl e] σ (.inl (bI (0 ≤ e ∧ e ≤ 5))) := by
  show en_wp k_X12_isElement 0 [some (.inl e)] [] (srl σ []) (fun r σ' => r = some (.inl (bI (0 ≤ e ∧ e ≤ 5))) ∧ σ' = σ)
  refine wp_run 3 (pc' := 3) (ls' := [some (.inl e)]) (st' := [.inl 5, .inl 0, .inl e]) (σ' := srl σ []) rfl ?_
  refine wp_fns (v := .inl (bI (0 ≤ e ∧ e ≤ 5))) rfl rfl rfl rfl rfl (ct_X12_in σ e 0 5 (by omega) (by omega) (by omega)) ?_
  show en_wp k_X12_isElement 6 [some (.inl e)] [.inl (bI (0 ≤ e ∧ e ≤ 5))] (srl σ []) _
  exact wp_zret rfl (bI_01 _) ⟨rfl, rfl⟩
theorem ct_X12_power (σ : en_m) (a : Int) (n : Int) (h1 : 0 ≤ n ∧ n ≤ 8) (h2 : 0 ≤ a ∧ a ≤ 4) : en_fn z_X12_power [.inl a, .inl n] σ (.inl (a ^ (n).toNat)) := by
  show en_wp k_X12_power 0 [some (.inl a), some (.inl n), none, none] [] (srl σ []) (fun r σ' => r = some (.inl (a ^ (n).toNat)) ∧ σ' = σ)
  have L_4 : ∀ (N : Nat) (k : Int) (v : Int), (0 ≤ k ∧ k ≤ n) → (v = a ^ k.toNat) → (n - k).toNat < N → en_wp k_X12_power 4 [some (.inl a), some (.inl n), some (.inl v), some (.inl k)] [] (srl σ []) (fun r σ' => r = some (.inl (a ^ (n).toNat)) ∧ σ' = σ) := by
    intro N
    induction N with
    | zero => intro k v; intros; omega
    | succ N ih_4 =>
      intro k v hk hv hN_4
      refine wp_run 2 (pc' := 6) (ls' := [some (.inl a), some (.inl n), some (.inl v), some (.inl k)]) (st' := [.inl n, .inl k]) (σ' := srl σ []) rfl ?_
      refine wp_ic_ge rfl (by omega) (by omega) (fun h_1 => ?_) (fun h_1 => ?_)
      · show en_wp k_X12_power 19 [some (.inl a), some (.inl n), some (.inl v), some (.inl k)] [] (srl σ []) _
        refine wp_run 1 (pc' := 20) (ls' := [some (.inl a), some (.inl n), some (.inl v), some (.inl k)]) (st' := [.inl v]) (σ' := srl σ []) rfl ?_
        exact wp_iret rfl ⟨(by rw [hv, show k = n by omega]), rfl⟩
      · show en_wp k_X12_power 9 [some (.inl a), some (.inl n), some (.inl v), some (.inl k)] [] (srl σ []) _
        refine wp_run 6 (pc' := 4) (ls' := [some (.inl a), some (.inl n), some (.inl (v * a)), some (.inl (k + 1))]) (st' := []) (σ' := srl σ []) rfl ?_
        exact ih_4 (k + 1) (v * a) (by omega) (by rw [hv, show (k + 1).toNat = k.toNat + 1 by omega, Int.pow_succ]) (by omega)
  refine wp_run 4 (pc' := 4) (ls' := [some (.inl a), some (.inl n), some (.inl 1), some (.inl 0)]) (st' := []) (σ' := srl σ []) rfl ?_
  exact L_4 _ 0 1 (by omega) (by simp) (Nat.lt_succ_self _)
theorem ct_X12_isBelow (σ : en_m) (n : Int) (D : Int) (p : Int) (d : Int) (hI : mI σ n D p) (h1 : i32 d) : en_fn z_X12_isBelow [.inr (.inr (r_Md, 0)), .inl d] σ (.inl (bI (0 ≤ d ∧ d ≤ D - 1))) := by
  show en_wp k_X12_isBelow 0 [some (.inr (.inr (r_Md, 0))), some (.inl d)] [] (srl σ []) (fun r σ' => r = some (.inl (bI (0 ≤ d ∧ d ≤ D - 1))) ∧ σ' = σ)
  have hI2 := hI
  obtain ⟨hO, hL, hn, hD, hp, hpw, hst⟩ := hI2
  obtain ⟨⟨hO1, hO2⟩, ⟨hO3, hO4⟩, hO5, hO6, hO7, hO8⟩ := id hO
  refine wp_run 6 (pc' := 10) (ls' := [some (.inr (.inr (r_Md, 0))), some (.inl d)]) (st' := [.inl (σ r_Md_live 0), .inr (.inr (r_Md_degree, 0)), .inl 0, .inl d]) (σ' := srl σ []) rfl ?_
  refine wp_iald0 rfl rfl (by omega) ?_
  show en_wp k_X12_isBelow 11 [some (.inr (.inr (r_Md, 0))), some (.inl d)] [.inl (σ r_Md_degree (σ r_Md_live 0)), .inl 0, .inl d] (srl σ []) _
  refine wp_run 2 (pc' := 13) (ls' := [some (.inr (.inr (r_Md, 0))), some (.inl d)]) (st' := [.inl ((σ r_Md_degree (σ r_Md_live 0)) - 1), .inl 0, .inl d]) (σ' := srl σ []) rfl ?_
  refine wp_fns (v := .inl (bI (0 ≤ d ∧ d ≤ ((σ r_Md_degree (σ r_Md_live 0)) - 1)))) rfl rfl rfl rfl rfl (ct_X12_in σ d 0 ((σ r_Md_degree (σ r_Md_live 0)) - 1) (by omega) (by omega) (by omega)) ?_
  show en_wp k_X12_isBelow 16 [some (.inr (.inr (r_Md, 0))), some (.inl d)] [.inl (bI (0 ≤ d ∧ d ≤ ((σ r_Md_degree (σ r_Md_live 0)) - 1)))] (srl σ []) _
  exact wp_zret rfl (bI_01 _) ⟨(by rw [hD]), rfl⟩
theorem ct_X12_wordAt (σ : en_m) (n : Int) (D : Int) (p : Int) (w : Int) (hI : mI σ n D p) (h1 : i32 w) : en_fn z_X12_wordAt [.inr (.inr (r_Md, 0)), .inl w] σ (.inl (sAt n D w)) := by
  show en_wp k_X12_wordAt 0 [some (.inr (.inr (r_Md, 0))), some (.inl w)] [] (srl σ []) (fun r σ' => r = some (.inl (sAt n D w)) ∧ σ' = σ)
  have hI2 := hI
  obtain ⟨hO, hL, hn, hD, hp, hpw, hst⟩ := hI2
  obtain ⟨⟨hO1, hO2⟩, ⟨hO3, hO4⟩, hO5, hO6, hO7, hO8⟩ := id hO
  refine wp_run 1 (pc' := 1) (ls' := [some (.inr (.inr (r_Md, 0))), some (.inl w)]) (st' := [.inl w]) (σ' := srl σ []) rfl ?_
  refine wp_if_lt rfl (by omega) (fun h_1 => ?_) (fun h_1 => ?_)
  · show en_wp k_X12_wordAt 33 [some (.inr (.inr (r_Md, 0))), some (.inl w)] [] (srl σ []) _
    refine wp_run 1 (pc' := 34) (ls' := [some (.inr (.inr (r_Md, 0))), some (.inl w)]) (st' := [.inl (-1)]) (σ' := srl σ []) rfl ?_
    exact wp_iret rfl ⟨(by first | (rw [sAt, if_pos (by omega)]) | (rw [sAt, if_neg (by omega)])), rfl⟩
  · show en_wp k_X12_wordAt 4 [some (.inr (.inr (r_Md, 0))), some (.inl w)] [] (srl σ []) _
    refine wp_run 3 (pc' := 9) (ls' := [some (.inr (.inr (r_Md, 0))), some (.inl w)]) (st' := [.inl 1000, .inl w, .inr (.inr (r_Md, 0))]) (σ' := srl σ []) rfl ?_
    refine wp_idivp rfl (by omega) (by omega) ?_
    show en_wp k_X12_wordAt 10 [some (.inr (.inr (r_Md, 0))), some (.inl w)] [.inl (w / 1000), .inr (.inr (r_Md, 0))] (srl σ []) _
    refine wp_fnv (v := .inl (bI (0 ≤ (w / 1000) ∧ (w / 1000) ≤ D))) rfl rfl rfl rfl (ct_X12_isDegree σ n D p (w / 1000) hI (by omega)) ?_
    show en_wp k_X12_wordAt 13 [some (.inr (.inr (r_Md, 0))), some (.inl w)] [.inl (bI (0 ≤ (w / 1000) ∧ (w / 1000) ≤ D))] (srl σ []) _
    refine wp_if_eqb rfl (fun h_2 => ?_) (fun h_2 => ?_)
    · show en_wp k_X12_wordAt 33 [some (.inr (.inr (r_Md, 0))), some (.inl w)] [] (srl σ []) _
      refine wp_run 1 (pc' := 34) (ls' := [some (.inr (.inr (r_Md, 0))), some (.inl w)]) (st' := [.inl (-1)]) (σ' := srl σ []) rfl ?_
      exact wp_iret rfl ⟨(by first | (rw [sAt, if_pos (by omega)]) | (rw [sAt, if_neg (by omega)])), rfl⟩
    · show en_wp k_X12_wordAt 16 [some (.inr (.inr (r_Md, 0))), some (.inl w)] [] (srl σ []) _
      refine wp_run 2 (pc' := 20) (ls' := [some (.inr (.inr (r_Md, 0))), some (.inl w)]) (st' := [.inl 1000, .inl w]) (σ' := srl σ []) rfl ?_
      refine wp_iremp rfl (by omega) (by omega) ?_
      show en_wp k_X12_wordAt 21 [some (.inr (.inr (r_Md, 0))), some (.inl w)] [.inl (w % 1000)] (srl σ []) _
      refine wp_run 3 (pc' := 26) (ls' := [some (.inr (.inr (r_Md, 0))), some (.inl w)]) (st' := [.inl 1000, .inl w, .inr (.inr (r_Md, 0)), .inl (w % 1000)]) (σ' := srl σ []) rfl ?_
      refine wp_idivp rfl (by omega) (by omega) ?_
      show en_wp k_X12_wordAt 27 [some (.inr (.inr (r_Md, 0))), some (.inl w)] [.inl (w / 1000), .inr (.inr (r_Md, 0)), .inl (w % 1000)] (srl σ []) _
      refine wp_fnv (v := .inl (sW n D (w / 1000))) rfl rfl rfl rfl (ct_X12_wide σ n D p (w / 1000) hI (by omega)) ?_
      show en_wp k_X12_wordAt 30 [some (.inr (.inr (r_Md, 0))), some (.inl w)] [.inl (sW n D (w / 1000)), .inl (w % 1000)] (srl σ []) _
      have q_3 : 0 ≤ sW n D (w / 1000) ∧ sW n D (w / 1000) ≤ 256 := sW_b hO
      refine wp_ic_lt rfl (by omega) (by omega) (fun h_4 => ?_) (fun h_4 => ?_)
      · show en_wp k_X12_wordAt 35 [some (.inr (.inr (r_Md, 0))), some (.inl w)] [] (srl σ []) _
        refine wp_run 3 (pc' := 40) (ls' := [some (.inr (.inr (r_Md, 0))), some (.inl w)]) (st' := [.inl 1000, .inl w, .inr (.inr (r_Md, 0))]) (σ' := srl σ []) rfl ?_
        refine wp_idivp rfl (by omega) (by omega) ?_
        show en_wp k_X12_wordAt 41 [some (.inr (.inr (r_Md, 0))), some (.inl w)] [.inl (w / 1000), .inr (.inr (r_Md, 0))] (srl σ []) _
        refine wp_fnv (v := .inl (sS n D (w / 1000))) rfl rfl rfl rfl (ct_X12_start σ n D p (w / 1000) hI (by omega)) ?_
        show en_wp k_X12_wordAt 44 [some (.inr (.inr (r_Md, 0))), some (.inl w)] [.inl (sS n D (w / 1000))] (srl σ []) _
        have q_5 : 0 ≤ sS n D (w / 1000) ∧ sS n D (w / 1000) ≤ 364 := sS_b hO
        refine wp_run 2 (pc' := 48) (ls' := [some (.inr (.inr (r_Md, 0))), some (.inl w)]) (st' := [.inl 1000, .inl w, .inl (sS n D (w / 1000))]) (σ' := srl σ []) rfl ?_
        refine wp_iremp rfl (by omega) (by omega) ?_
        show en_wp k_X12_wordAt 49 [some (.inr (.inr (r_Md, 0))), some (.inl w)] [.inl (w % 1000), .inl (sS n D (w / 1000))] (srl σ []) _
        refine wp_run 1 (pc' := 50) (ls' := [some (.inr (.inr (r_Md, 0))), some (.inl w)]) (st' := [.inl ((sS n D (w / 1000)) + (w % 1000))]) (σ' := srl σ []) rfl ?_
        exact wp_iret rfl ⟨(by first | (rw [sAt, if_pos (by omega)]) | (rw [sAt, if_neg (by omega)])), rfl⟩
      · show en_wp k_X12_wordAt 33 [some (.inr (.inr (r_Md, 0))), some (.inl w)] [] (srl σ []) _
        refine wp_run 1 (pc' := 34) (ls' := [some (.inr (.inr (r_Md, 0))), some (.inl w)]) (st' := [.inl (-1)]) (σ' := srl σ []) rfl ?_
        exact wp_iret rfl ⟨(by first | (rw [sAt, if_pos (by omega)]) | (rw [sAt, if_neg (by omega)])), rfl⟩
theorem ct_X12_lengthAt (σ : en_m) (n : Int) (D : Int) (p : Int) (at_ : Int) (hI : mI σ n D p) (h1 : 0 ≤ at_ ∧ at_ ≤ 400) : en_fn z_X12_lengthAt [.inr (.inr (r_Md, 0)), .inl at_] σ (.inl (sL n D at_)) := by
  show en_wp k_X12_lengthAt 0 [some (.inr (.inr (r_Md, 0))), some (.inl at_), none] [] (srl σ []) (fun r σ' => r = some (.inl (sL n D at_)) ∧ σ' = σ)
  have hI2 := hI
  obtain ⟨hO, hL, hn, hD, hp, hpw, hst⟩ := hI2
  obtain ⟨⟨hO1, hO2⟩, ⟨hO3, hO4⟩, hO5, hO6, hO7, hO8⟩ := id hO
  have L_2 : ∀ (N : Nat) (d : Int), (0 ≤ d ∧ d ≤ D) → (d = 0 ∨ sS n D d ≤ at_) → (D - d).toNat < N → en_wp k_X12_lengthAt 2 [some (.inr (.inr (r_Md, 0))), some (.inl at_), some (.inl d)] [] (srl σ []) (fun r σ' => r = some (.inl (sL n D at_)) ∧ σ' = σ) := by
    intro N
    induction N with
    | zero => intro d; intros; omega
    | succ N ih_2 =>
      intro d hd hs hN_2
      refine wp_run 5 (pc' := 11) (ls' := [some (.inr (.inr (r_Md, 0))), some (.inl at_), some (.inl d)]) (st' := [.inl (σ r_Md_live 0), .inr (.inr (r_Md_degree, 0)), .inl d]) (σ' := srl σ []) rfl ?_
      refine wp_iald0 rfl rfl (by omega) ?_
      show en_wp k_X12_lengthAt 12 [some (.inr (.inr (r_Md, 0))), some (.inl at_), some (.inl d)] [.inl (σ r_Md_degree (σ r_Md_live 0)), .inl d] (srl σ []) _
      refine wp_ic_ge rfl (by omega) (by omega) (fun h_1 => ?_) (fun h_1 => ?_)
      · rw [hD] at h_1
        show en_wp k_X12_lengthAt 32 [some (.inr (.inr (r_Md, 0))), some (.inl at_), some (.inl d)] [] (srl σ []) _
        refine wp_run 1 (pc' := 33) (ls' := [some (.inr (.inr (r_Md, 0))), some (.inl at_), some (.inl d)]) (st' := [.inl d]) (σ' := srl σ []) rfl ?_
        exact wp_iret rfl ⟨(by rw [sL_eq hO1 (by omega) (by omega) (by omega) hs (by omega)]), rfl⟩
      · rw [hD] at h_1
        show en_wp k_X12_lengthAt 15 [some (.inr (.inr (r_Md, 0))), some (.inl at_), some (.inl d)] [] (srl σ []) _
        refine wp_run 5 (pc' := 20) (ls' := [some (.inr (.inr (r_Md, 0))), some (.inl at_), some (.inl d)]) (st' := [.inl (d + 1), .inr (.inr (r_Md, 0)), .inl at_]) (σ' := srl σ []) rfl ?_
        refine wp_fnv (v := .inl (sS n D (d + 1))) rfl rfl rfl rfl (ct_X12_start σ n D p (d + 1) hI (by omega)) ?_
        show en_wp k_X12_lengthAt 23 [some (.inr (.inr (r_Md, 0))), some (.inl at_), some (.inl d)] [.inl (sS n D (d + 1)), .inl at_] (srl σ []) _
        have q_2 : 0 ≤ sS n D (d + 1) ∧ sS n D (d + 1) ≤ 364 := sS_b hO
        refine wp_ic_lt rfl (by omega) (by omega) (fun h_3 => ?_) (fun h_3 => ?_)
        · show en_wp k_X12_lengthAt 32 [some (.inr (.inr (r_Md, 0))), some (.inl at_), some (.inl d)] [] (srl σ []) _
          refine wp_run 1 (pc' := 33) (ls' := [some (.inr (.inr (r_Md, 0))), some (.inl at_), some (.inl d)]) (st' := [.inl d]) (σ' := srl σ []) rfl ?_
          exact wp_iret rfl ⟨(by rw [sL_eq hO1 (by omega) (by omega) (by omega) hs (by omega)]), rfl⟩
        · show en_wp k_X12_lengthAt 26 [some (.inr (.inr (r_Md, 0))), some (.inl at_), some (.inl d)] [] (srl σ []) _
          refine wp_run 2 (pc' := 2) (ls' := [some (.inr (.inr (r_Md, 0))), some (.inl at_), some (.inl (d + 1))]) (st' := []) (σ' := srl σ []) rfl ?_
          exact ih_2 (d + 1) (by omega) (by omega) (by omega)
  refine wp_run 2 (pc' := 2) (ls' := [some (.inr (.inr (r_Md, 0))), some (.inl at_), some (.inl 0)]) (st' := []) (σ' := srl σ []) rfl ?_
  exact L_2 _ 0 (by omega) (by omega) (Nat.lt_succ_self _)
theorem ct_X12_manyOf (σ : en_m) (n : Int) (D : Int) (p : Int) (e : Int) (hI : mI σ n D p) (hE : R97 (σ r_Md_element)) (h1 : 0 ≤ e ∧ e ≤ 5) : en_fn z_X12_manyOf [.inr (.inr (r_Md, 0)), .inl e] σ (.inl (sC (fun k => (σ r_Md_element) (400 * e + k)) (sS n D (D + 1)).toNat)) := by
  show en_wp k_X12_manyOf 0 [some (.inr (.inr (r_Md, 0))), some (.inl e), none, none] [] (srl σ []) (fun r σ' => r = some (.inl (sC (fun k => (σ r_Md_element) (400 * e + k)) (sS n D (D + 1)).toNat)) ∧ σ' = σ)
  have hI2 := hI
  obtain ⟨hO, hL, hn, hD, hp, hpw, hst⟩ := hI2
  obtain ⟨⟨hO1, hO2⟩, ⟨hO3, hO4⟩, hO5, hO6, hO7, hO8⟩ := id hO
  have L_4 : ∀ (N : Nat) (c : Int) (k : Int), (0 ≤ k ∧ k ≤ sS n D (D + 1)) → (c = sC (fun k => σ r_Md_element (400 * e + k)) k.toNat) → (sS n D (D + 1) - k).toNat < N → en_wp k_X12_manyOf 4 [some (.inr (.inr (r_Md, 0))), some (.inl e), some (.inl c), some (.inl k)] [] (srl σ []) (fun r σ' => r = some (.inl (sC (fun k => (σ r_Md_element) (400 * e + k)) (sS n D (D + 1)).toNat)) ∧ σ' = σ) := by
    intro N
    induction N with
    | zero => intro c k; intros; omega
    | succ N ih_4 =>
      intro c k hk hc hN_4
      refine wp_run 2 (pc' := 6) (ls' := [some (.inr (.inr (r_Md, 0))), some (.inl e), some (.inl c), some (.inl k)]) (st' := [.inr (.inr (r_Md, 0)), .inl k]) (σ' := srl σ []) rfl ?_
      refine wp_fnv (v := .inl (sS n D (D + 1))) rfl rfl rfl rfl (ct_X12_all σ n D p hI) ?_
      show en_wp k_X12_manyOf 9 [some (.inr (.inr (r_Md, 0))), some (.inl e), some (.inl c), some (.inl k)] [.inl (sS n D (D + 1)), .inl k] (srl σ []) _
      have q_1 : 0 ≤ sS n D (D + 1) ∧ sS n D (D + 1) ≤ 364 := sS_b hO
      refine wp_ic_ge rfl (by omega) (by omega) (fun h_2 => ?_) (fun h_2 => ?_)
      · show en_wp k_X12_manyOf 36 [some (.inr (.inr (r_Md, 0))), some (.inl e), some (.inl c), some (.inl k)] [] (srl σ []) _
        refine wp_run 1 (pc' := 37) (ls' := [some (.inr (.inr (r_Md, 0))), some (.inl e), some (.inl c), some (.inl k)]) (st' := [.inl c]) (σ' := srl σ []) rfl ?_
        exact wp_iret rfl ⟨(by rw [hc, show k = sS n D (D + 1) by omega]), rfl⟩
      · show en_wp k_X12_manyOf 12 [some (.inr (.inr (r_Md, 0))), some (.inl e), some (.inl c), some (.inl k)] [] (srl σ []) _
        refine wp_run 7 (pc' := 23) (ls' := [some (.inr (.inr (r_Md, 0))), some (.inl e), some (.inl c), some (.inl k)]) (st' := [.inl ((400 * e) + k), .inr (.inr (r_Md_element, 0))]) (σ' := srl σ []) rfl ?_
        refine wp_iald0 rfl rfl (by omega) ?_
        show en_wp k_X12_manyOf 24 [some (.inr (.inr (r_Md, 0))), some (.inl e), some (.inl c), some (.inl k)] [.inl (σ r_Md_element ((400 * e) + k))] (srl σ []) _
        have hx := hE (400 * e + k)
        refine wp_if_eq rfl (by omega) (fun h_3 => ?_) (fun h_3 => ?_)
        · show en_wp k_X12_manyOf 30 [some (.inr (.inr (r_Md, 0))), some (.inl e), some (.inl c), some (.inl k)] [] (srl σ []) _
          refine wp_run 2 (pc' := 4) (ls' := [some (.inr (.inr (r_Md, 0))), some (.inl e), some (.inl c), some (.inl (k + 1))]) (st' := []) (σ' := srl σ []) rfl ?_
          exact ih_4 c (k + 1) (by omega) (by rw [hc, sC_s _ hk.1]; simp [*]) (by omega)
        · show en_wp k_X12_manyOf 27 [some (.inr (.inr (r_Md, 0))), some (.inl e), some (.inl c), some (.inl k)] [] (srl σ []) _
          refine wp_run 3 (pc' := 4) (ls' := [some (.inr (.inr (r_Md, 0))), some (.inl e), some (.inl (c + 1)), some (.inl (k + 1))]) (st' := []) (σ' := srl σ []) rfl ?_
          exact ih_4 (c + 1) (k + 1) (by omega) (by rw [hc, sC_s _ hk.1]; simp [*]) (by omega)
  refine wp_run 4 (pc' := 4) (ls' := [some (.inr (.inr (r_Md, 0))), some (.inl e), some (.inl 0), some (.inl 0)]) (st' := []) (σ' := srl σ []) rfl ?_
  exact L_4 _ 0 0 (by have := (sS_b (k := D + 1) hO).1; omega) rfl (Nat.lt_succ_self _)
theorem ct_X12_greatestOf (σ : en_m) (n : Int) (D : Int) (p : Int) (e : Int) (hI : mI σ n D p) (hE : R97 (σ r_Md_element)) (h1 : 0 ≤ e ∧ e ≤ 5) : en_fn z_X12_greatestOf [.inr (.inr (r_Md, 0)), .inl e] σ (.inl (sG (fun k => (σ r_Md_element) (400 * e + k)) (sS n D (D + 1)).toNat)) := by
  show en_wp k_X12_greatestOf 0 [some (.inr (.inr (r_Md, 0))), some (.inl e), none, none] [] (srl σ []) (fun r σ' => r = some (.inl (sG (fun k => (σ r_Md_element) (400 * e + k)) (sS n D (D + 1)).toNat)) ∧ σ' = σ)
  have hI2 := hI
  obtain ⟨hO, hL, hn, hD, hp, hpw, hst⟩ := hI2
  obtain ⟨⟨hO1, hO2⟩, ⟨hO3, hO4⟩, hO5, hO6, hO7, hO8⟩ := id hO
  have L_4 : ∀ (N : Nat) (c : Int) (k : Int), (0 ≤ k ∧ k ≤ sS n D (D + 1)) → (c = sG (fun k => σ r_Md_element (400 * e + k)) k.toNat) → (sS n D (D + 1) - k).toNat < N → en_wp k_X12_greatestOf 4 [some (.inr (.inr (r_Md, 0))), some (.inl e), some (.inl c), some (.inl k)] [] (srl σ []) (fun r σ' => r = some (.inl (sG (fun k => (σ r_Md_element) (400 * e + k)) (sS n D (D + 1)).toNat)) ∧ σ' = σ) := by
    intro N
    induction N with
    | zero => intro c k; intros; omega
    | succ N ih_4 =>
      intro c k hk hc hN_4
      refine wp_run 2 (pc' := 6) (ls' := [some (.inr (.inr (r_Md, 0))), some (.inl e), some (.inl c), some (.inl k)]) (st' := [.inr (.inr (r_Md, 0)), .inl k]) (σ' := srl σ []) rfl ?_
      refine wp_fnv (v := .inl (sS n D (D + 1))) rfl rfl rfl rfl (ct_X12_all σ n D p hI) ?_
      show en_wp k_X12_greatestOf 9 [some (.inr (.inr (r_Md, 0))), some (.inl e), some (.inl c), some (.inl k)] [.inl (sS n D (D + 1)), .inl k] (srl σ []) _
      have q_1 : 0 ≤ sS n D (D + 1) ∧ sS n D (D + 1) ≤ 364 := sS_b hO
      refine wp_ic_ge rfl (by omega) (by omega) (fun h_2 => ?_) (fun h_2 => ?_)
      · show en_wp k_X12_greatestOf 35 [some (.inr (.inr (r_Md, 0))), some (.inl e), some (.inl c), some (.inl k)] [] (srl σ []) _
        refine wp_run 1 (pc' := 36) (ls' := [some (.inr (.inr (r_Md, 0))), some (.inl e), some (.inl c), some (.inl k)]) (st' := [.inl c]) (σ' := srl σ []) rfl ?_
        exact wp_iret rfl ⟨(by rw [hc, show k = sS n D (D + 1) by omega]), rfl⟩
      · show en_wp k_X12_greatestOf 12 [some (.inr (.inr (r_Md, 0))), some (.inl e), some (.inl c), some (.inl k)] [] (srl σ []) _
        refine wp_run 7 (pc' := 23) (ls' := [some (.inr (.inr (r_Md, 0))), some (.inl e), some (.inl c), some (.inl k)]) (st' := [.inl ((400 * e) + k), .inr (.inr (r_Md_element, 0))]) (σ' := srl σ []) rfl ?_
        refine wp_iald0 rfl rfl (by omega) ?_
        show en_wp k_X12_greatestOf 24 [some (.inr (.inr (r_Md, 0))), some (.inl e), some (.inl c), some (.inl k)] [.inl (σ r_Md_element ((400 * e) + k))] (srl σ []) _
        have hx := hE (400 * e + k)
        refine wp_if_eq rfl (by omega) (fun h_3 => ?_) (fun h_3 => ?_)
        · show en_wp k_X12_greatestOf 29 [some (.inr (.inr (r_Md, 0))), some (.inl e), some (.inl c), some (.inl k)] [] (srl σ []) _
          refine wp_run 2 (pc' := 4) (ls' := [some (.inr (.inr (r_Md, 0))), some (.inl e), some (.inl c), some (.inl (k + 1))]) (st' := []) (σ' := srl σ []) rfl ?_
          exact ih_4 c (k + 1) (by omega) (by rw [sG_s _ hk.1]; simp [*]) (by omega)
        · show en_wp k_X12_greatestOf 27 [some (.inr (.inr (r_Md, 0))), some (.inl e), some (.inl c), some (.inl k)] [] (srl σ []) _
          refine wp_run 4 (pc' := 4) (ls' := [some (.inr (.inr (r_Md, 0))), some (.inl e), some (.inl k), some (.inl (k + 1))]) (st' := []) (σ' := srl σ []) rfl ?_
          exact ih_4 k (k + 1) (by omega) (by rw [sG_s _ hk.1]; simp [*]) (by omega)
  refine wp_run 4 (pc' := 4) (ls' := [some (.inr (.inr (r_Md, 0))), some (.inl e), some (.inl (-1)), some (.inl 0)]) (st' := []) (σ' := srl σ []) rfl ?_
  exact L_4 _ (-1) 0 (by have := (sS_b (k := D + 1) hO).1; omega) rfl (Nat.lt_succ_self _)
theorem ct_X12_counts (σ : en_m) (n : Int) (D : Int) (p : Int) (e : Int) (w : Int) (hI : mI σ n D p) (h1 : i32 e) (h2 : i32 w) : en_fn z_X12_counts [.inr (.inr (r_Md, 0)), .inl e, .inl w] σ (.inl (if (0 ≤ e ∧ e ≤ 5) ∧ 0 ≤ sAt n D w then (σ r_Md_element) (400 * e + sAt n D w) else -1)) := by
  show en_wp k_X12_counts 0 [some (.inr (.inr (r_Md, 0))), some (.inl e), some (.inl w), none] [] (srl σ []) (fun r σ' => r = some (.inl (if (0 ≤ e ∧ e ≤ 5) ∧ 0 ≤ sAt n D w then (σ r_Md_element) (400 * e + sAt n D w) else -1)) ∧ σ' = σ)
  have hI2 := hI
  obtain ⟨hO, hL, hn, hD, hp, hpw, hst⟩ := hI2
  obtain ⟨⟨hO1, hO2⟩, ⟨hO3, hO4⟩, hO5, hO6, hO7, hO8⟩ := id hO
  refine wp_run 2 (pc' := 2) (ls' := [some (.inr (.inr (r_Md, 0))), some (.inl e), some (.inl w), none]) (st' := [.inl w, .inr (.inr (r_Md, 0))]) (σ' := srl σ []) rfl ?_
  refine wp_fnv (v := .inl (sAt n D w)) rfl rfl rfl rfl (ct_X12_wordAt σ n D p w hI (by omega)) ?_
  show en_wp k_X12_counts 5 [some (.inr (.inr (r_Md, 0))), some (.inl e), some (.inl w), none] [.inl (sAt n D w)] (srl σ []) _
  have q_1 : -1 ≤ sAt n D w ∧ sAt n D w < 364 := sAt_b hO
  refine wp_run 2 (pc' := 7) (ls' := [some (.inr (.inr (r_Md, 0))), some (.inl e), some (.inl w), some (.inl (sAt n D w))]) (st' := [.inl e]) (σ' := srl σ []) rfl ?_
  refine wp_fns (v := .inl (bI (0 ≤ e ∧ e ≤ 5))) rfl rfl rfl rfl rfl (ct_X12_isElement σ e (by omega)) ?_
  show en_wp k_X12_counts 10 [some (.inr (.inr (r_Md, 0))), some (.inl e), some (.inl w), some (.inl (sAt n D w))] [.inl (bI (0 ≤ e ∧ e ≤ 5))] (srl σ []) _
  refine wp_if_eqb rfl (fun h_2 => ?_) (fun h_2 => ?_)
  · show en_wp k_X12_counts 32 [some (.inr (.inr (r_Md, 0))), some (.inl e), some (.inl w), some (.inl (sAt n D w))] [] (srl σ []) _
    refine wp_run 1 (pc' := 33) (ls' := [some (.inr (.inr (r_Md, 0))), some (.inl e), some (.inl w), some (.inl (sAt n D w))]) (st' := [.inl (-1)]) (σ' := srl σ []) rfl ?_
    exact wp_iret rfl ⟨(by repeat (first | rfl | rw [if_pos (by omega)] | rw [if_neg (by omega)])), rfl⟩
  · show en_wp k_X12_counts 13 [some (.inr (.inr (r_Md, 0))), some (.inl e), some (.inl w), some (.inl (sAt n D w))] [] (srl σ []) _
    refine wp_run 1 (pc' := 14) (ls' := [some (.inr (.inr (r_Md, 0))), some (.inl e), some (.inl w), some (.inl (sAt n D w))]) (st' := [.inl (sAt n D w)]) (σ' := srl σ []) rfl ?_
    refine wp_if_lt rfl (by omega) (fun h_3 => ?_) (fun h_3 => ?_)
    · show en_wp k_X12_counts 32 [some (.inr (.inr (r_Md, 0))), some (.inl e), some (.inl w), some (.inl (sAt n D w))] [] (srl σ []) _
      refine wp_run 1 (pc' := 33) (ls' := [some (.inr (.inr (r_Md, 0))), some (.inl e), some (.inl w), some (.inl (sAt n D w))]) (st' := [.inl (-1)]) (σ' := srl σ []) rfl ?_
      exact wp_iret rfl ⟨(by repeat (first | rfl | rw [if_pos (by omega)] | rw [if_neg (by omega)])), rfl⟩
    · show en_wp k_X12_counts 17 [some (.inr (.inr (r_Md, 0))), some (.inl e), some (.inl w), some (.inl (sAt n D w))] [] (srl σ []) _
      refine wp_run 7 (pc' := 28) (ls' := [some (.inr (.inr (r_Md, 0))), some (.inl e), some (.inl w), some (.inl (sAt n D w))]) (st' := [.inl ((400 * e) + (sAt n D w)), .inr (.inr (r_Md_element, 0))]) (σ' := srl σ []) rfl ?_
      refine wp_iald0 rfl rfl (by omega) ?_
      show en_wp k_X12_counts 29 [some (.inr (.inr (r_Md, 0))), some (.inl e), some (.inl w), some (.inl (sAt n D w))] [.inl (σ r_Md_element ((400 * e) + (sAt n D w)))] (srl σ []) _
      refine wp_run 1 (pc' := 33) (ls' := [some (.inr (.inr (r_Md, 0))), some (.inl e), some (.inl w), some (.inl (sAt n D w))]) (st' := [.inl (σ r_Md_element ((400 * e) + (sAt n D w)))]) (σ' := srl σ []) rfl ?_
      exact wp_iret rfl ⟨(by repeat (first | rfl | rw [if_pos (by omega)] | rw [if_neg (by omega)])), rfl⟩
theorem ct_X12_words (σ : en_m) (n : Int) (D : Int) (p : Int) (e : Int) (what : Int) (hI : mI σ n D p) (hE : R97 (σ r_Md_element)) (h1 : i32 e) (h2 : i32 what) : en_fn z_X12_words [.inr (.inr (r_Md, 0)), .inl e, .inl what] σ (.inl (if ¬ (0 ≤ e ∧ e ≤ 5) ∨ ¬ (0 ≤ what ∧ what ≤ 1) then -1 else if what = 0 then sC (fun k => (σ r_Md_element) (400 * e + k)) (sS n D (D + 1)).toNat else if sG (fun k => (σ r_Md_element) (400 * e + k)) (sS n D (D + 1)).toNat < 0 then -2 else sCode n D (sG (fun k => (σ r_Md_element) (400 * e + k)) (sS n D (D + 1)).toNat))) := by
  show en_wp k_X12_words 0 [some (.inr (.inr (r_Md, 0))), some (.inl e), some (.inl what), none] [] (srl σ []) (fun r σ' => r = some (.inl (if ¬ (0 ≤ e ∧ e ≤ 5) ∨ ¬ (0 ≤ what ∧ what ≤ 1) then -1 else if what = 0 then sC (fun k => (σ r_Md_element) (400 * e + k)) (sS n D (D + 1)).toNat else if sG (fun k => (σ r_Md_element) (400 * e + k)) (sS n D (D + 1)).toNat < 0 then -2 else sCode n D (sG (fun k => (σ r_Md_element) (400 * e + k)) (sS n D (D + 1)).toNat))) ∧ σ' = σ)
  have hI2 := hI
  obtain ⟨hO, hL, hn, hD, hp, hpw, hst⟩ := hI2
  obtain ⟨⟨hO1, hO2⟩, ⟨hO3, hO4⟩, hO5, hO6, hO7, hO8⟩ := id hO
  refine wp_run 1 (pc' := 1) (ls' := [some (.inr (.inr (r_Md, 0))), some (.inl e), some (.inl what), none]) (st' := [.inl e]) (σ' := srl σ []) rfl ?_
  refine wp_fns (v := .inl (bI (0 ≤ e ∧ e ≤ 5))) rfl rfl rfl rfl rfl (ct_X12_isElement σ e (by omega)) ?_
  show en_wp k_X12_words 4 [some (.inr (.inr (r_Md, 0))), some (.inl e), some (.inl what), none] [.inl (bI (0 ≤ e ∧ e ≤ 5))] (srl σ []) _
  refine wp_if_eqb rfl (fun h_1 => ?_) (fun h_1 => ?_)
  · show en_wp k_X12_words 16 [some (.inr (.inr (r_Md, 0))), some (.inl e), some (.inl what), none] [] (srl σ []) _
    refine wp_run 1 (pc' := 17) (ls' := [some (.inr (.inr (r_Md, 0))), some (.inl e), some (.inl what), none]) (st' := [.inl (-1)]) (σ' := srl σ []) rfl ?_
    exact wp_iret rfl ⟨(by repeat (first | rfl | rw [if_pos (by omega)] | rw [if_neg (by omega)])), rfl⟩
  · show en_wp k_X12_words 7 [some (.inr (.inr (r_Md, 0))), some (.inl e), some (.inl what), none] [] (srl σ []) _
    refine wp_run 3 (pc' := 10) (ls' := [some (.inr (.inr (r_Md, 0))), some (.inl e), some (.inl what), none]) (st' := [.inl 1, .inl 0, .inl what]) (σ' := srl σ []) rfl ?_
    refine wp_fns (v := .inl (bI (0 ≤ what ∧ what ≤ 1))) rfl rfl rfl rfl rfl (ct_X12_in σ what 0 1 (by omega) (by omega) (by omega)) ?_
    show en_wp k_X12_words 13 [some (.inr (.inr (r_Md, 0))), some (.inl e), some (.inl what), none] [.inl (bI (0 ≤ what ∧ what ≤ 1))] (srl σ []) _
    refine wp_if_neb rfl (fun h_2 => ?_) (fun h_2 => ?_)
    · show en_wp k_X12_words 18 [some (.inr (.inr (r_Md, 0))), some (.inl e), some (.inl what), none] [] (srl σ []) _
      refine wp_run 1 (pc' := 19) (ls' := [some (.inr (.inr (r_Md, 0))), some (.inl e), some (.inl what), none]) (st' := [.inl what]) (σ' := srl σ []) rfl ?_
      refine wp_if_ne rfl (by omega) (fun h_3 => ?_) (fun h_3 => ?_)
      · show en_wp k_X12_words 28 [some (.inr (.inr (r_Md, 0))), some (.inl e), some (.inl what), none] [] (srl σ []) _
        refine wp_run 2 (pc' := 30) (ls' := [some (.inr (.inr (r_Md, 0))), some (.inl e), some (.inl what), none]) (st' := [.inl e, .inr (.inr (r_Md, 0))]) (σ' := srl σ []) rfl ?_
        refine wp_fnv (v := .inl (sG (fun k => (σ r_Md_element) (400 * e + k)) (sS n D (D + 1)).toNat)) rfl rfl rfl rfl (ct_X12_greatestOf σ n D p e hI hE (by omega)) ?_
        show en_wp k_X12_words 33 [some (.inr (.inr (r_Md, 0))), some (.inl e), some (.inl what), none] [.inl (sG (fun k => (σ r_Md_element) (400 * e + k)) (sS n D (D + 1)).toNat)] (srl σ []) _
        have hg := sG_b (fun k => σ r_Md_element (400 * e + k)) (sS n D (D + 1)).toNat
        have hS := sS_b (k := D + 1) hO
        refine wp_run 2 (pc' := 35) (ls' := [some (.inr (.inr (r_Md, 0))), some (.inl e), some (.inl what), some (.inl (sG (fun k => (σ r_Md_element) (400 * e + k)) (sS n D (D + 1)).toNat))]) (st' := [.inl (sG (fun k => (σ r_Md_element) (400 * e + k)) (sS n D (D + 1)).toNat)]) (σ' := srl σ []) rfl ?_
        refine wp_if_ge rfl (by omega) (fun h_4 => ?_) (fun h_4 => ?_)
        · show en_wp k_X12_words 43 [some (.inr (.inr (r_Md, 0))), some (.inl e), some (.inl what), some (.inl (sG (fun k => (σ r_Md_element) (400 * e + k)) (sS n D (D + 1)).toNat))] [] (srl σ []) _
          refine wp_run 3 (pc' := 48) (ls' := [some (.inr (.inr (r_Md, 0))), some (.inl e), some (.inl what), some (.inl (sG (fun k => (σ r_Md_element) (400 * e + k)) (sS n D (D + 1)).toNat))]) (st' := [.inl (sG (fun k => (σ r_Md_element) (400 * e + k)) (sS n D (D + 1)).toNat), .inr (.inr (r_Md, 0)), .inl 1000]) (σ' := srl σ []) rfl ?_
          refine wp_fnv (v := .inl (sL n D (sG (fun k => (σ r_Md_element) (400 * e + k)) (sS n D (D + 1)).toNat))) rfl rfl rfl rfl (ct_X12_lengthAt σ n D p (sG (fun k => (σ r_Md_element) (400 * e + k)) (sS n D (D + 1)).toNat) hI (by omega)) ?_
          show en_wp k_X12_words 51 [some (.inr (.inr (r_Md, 0))), some (.inl e), some (.inl what), some (.inl (sG (fun k => (σ r_Md_element) (400 * e + k)) (sS n D (D + 1)).toNat))] [.inl (sL n D (sG (fun k => (σ r_Md_element) (400 * e + k)) (sS n D (D + 1)).toNat)), .inl 1000] (srl σ []) _
          have q_5 : 0 ≤ sL n D (sG (fun k => (σ r_Md_element) (400 * e + k)) (sS n D (D + 1)).toNat) ∧ sL n D (sG (fun k => (σ r_Md_element) (400 * e + k)) (sS n D (D + 1)).toNat) ≤ 7 := sL_b _ _ _
          refine wp_run 6 (pc' := 57) (ls' := [some (.inr (.inr (r_Md, 0))), some (.inl e), some (.inl what), some (.inl (sG (fun k => (σ r_Md_element) (400 * e + k)) (sS n D (D + 1)).toNat))]) (st' := [.inl (sG (fun k => (σ r_Md_element) (400 * e + k)) (sS n D (D + 1)).toNat), .inr (.inr (r_Md, 0)), .inr (.inr (r_Md, 0)), .inl ((1000 * (sL n D (sG (fun k => (σ r_Md_element) (400 * e + k)) (sS n D (D + 1)).toNat))) + (sG (fun k => (σ r_Md_element) (400 * e + k)) (sS n D (D + 1)).toNat))]) (σ' := srl σ []) rfl ?_
          refine wp_fnv (v := .inl (sL n D (sG (fun k => (σ r_Md_element) (400 * e + k)) (sS n D (D + 1)).toNat))) rfl rfl rfl rfl (ct_X12_lengthAt σ n D p (sG (fun k => (σ r_Md_element) (400 * e + k)) (sS n D (D + 1)).toNat) hI (by omega)) ?_
          show en_wp k_X12_words 60 [some (.inr (.inr (r_Md, 0))), some (.inl e), some (.inl what), some (.inl (sG (fun k => (σ r_Md_element) (400 * e + k)) (sS n D (D + 1)).toNat))] [.inl (sL n D (sG (fun k => (σ r_Md_element) (400 * e + k)) (sS n D (D + 1)).toNat)), .inr (.inr (r_Md, 0)), .inl ((1000 * (sL n D (sG (fun k => (σ r_Md_element) (400 * e + k)) (sS n D (D + 1)).toNat))) + (sG (fun k => (σ r_Md_element) (400 * e + k)) (sS n D (D + 1)).toNat))] (srl σ []) _
          have q_6 : 0 ≤ sL n D (sG (fun k => (σ r_Md_element) (400 * e + k)) (sS n D (D + 1)).toNat) ∧ sL n D (sG (fun k => (σ r_Md_element) (400 * e + k)) (sS n D (D + 1)).toNat) ≤ 7 := sL_b _ _ _
          refine wp_fnv (v := .inl (sS n D (sL n D (sG (fun k => (σ r_Md_element) (400 * e + k)) (sS n D (D + 1)).toNat)))) rfl rfl rfl rfl (ct_X12_start σ n D p (sL n D (sG (fun k => (σ r_Md_element) (400 * e + k)) (sS n D (D + 1)).toNat)) hI (by omega)) ?_
          show en_wp k_X12_words 63 [some (.inr (.inr (r_Md, 0))), some (.inl e), some (.inl what), some (.inl (sG (fun k => (σ r_Md_element) (400 * e + k)) (sS n D (D + 1)).toNat))] [.inl (sS n D (sL n D (sG (fun k => (σ r_Md_element) (400 * e + k)) (sS n D (D + 1)).toNat))), .inl ((1000 * (sL n D (sG (fun k => (σ r_Md_element) (400 * e + k)) (sS n D (D + 1)).toNat))) + (sG (fun k => (σ r_Md_element) (400 * e + k)) (sS n D (D + 1)).toNat))] (srl σ []) _
          have q_7 : 0 ≤ sS n D (sL n D (sG (fun k => (σ r_Md_element) (400 * e + k)) (sS n D (D + 1)).toNat)) ∧ sS n D (sL n D (sG (fun k => (σ r_Md_element) (400 * e + k)) (sS n D (D + 1)).toNat)) ≤ 364 := sS_b hO
          refine wp_run 1 (pc' := 64) (ls' := [some (.inr (.inr (r_Md, 0))), some (.inl e), some (.inl what), some (.inl (sG (fun k => (σ r_Md_element) (400 * e + k)) (sS n D (D + 1)).toNat))]) (st' := [.inl (((1000 * (sL n D (sG (fun k => (σ r_Md_element) (400 * e + k)) (sS n D (D + 1)).toNat))) + (sG (fun k => (σ r_Md_element) (400 * e + k)) (sS n D (D + 1)).toNat)) - (sS n D (sL n D (sG (fun k => (σ r_Md_element) (400 * e + k)) (sS n D (D + 1)).toNat))))]) (σ' := srl σ []) rfl ?_
          exact wp_iret rfl ⟨(by repeat (first | rfl | rw [if_pos (by omega)] | rw [if_neg (by omega)])), rfl⟩
        · show en_wp k_X12_words 38 [some (.inr (.inr (r_Md, 0))), some (.inl e), some (.inl what), some (.inl (sG (fun k => (σ r_Md_element) (400 * e + k)) (sS n D (D + 1)).toNat))] [] (srl σ []) _
          refine wp_run 2 (pc' := 64) (ls' := [some (.inr (.inr (r_Md, 0))), some (.inl e), some (.inl what), some (.inl (sG (fun k => (σ r_Md_element) (400 * e + k)) (sS n D (D + 1)).toNat))]) (st' := [.inl (-2)]) (σ' := srl σ []) rfl ?_
          exact wp_iret rfl ⟨(by repeat (first | rfl | rw [if_pos (by omega)] | rw [if_neg (by omega)])), rfl⟩
      · show en_wp k_X12_words 22 [some (.inr (.inr (r_Md, 0))), some (.inl e), some (.inl what), none] [] (srl σ []) _
        refine wp_run 2 (pc' := 24) (ls' := [some (.inr (.inr (r_Md, 0))), some (.inl e), some (.inl what), none]) (st' := [.inl e, .inr (.inr (r_Md, 0))]) (σ' := srl σ []) rfl ?_
        refine wp_fnv (v := .inl (sC (fun k => (σ r_Md_element) (400 * e + k)) (sS n D (D + 1)).toNat)) rfl rfl rfl rfl (ct_X12_manyOf σ n D p e hI hE (by omega)) ?_
        show en_wp k_X12_words 27 [some (.inr (.inr (r_Md, 0))), some (.inl e), some (.inl what), none] [.inl (sC (fun k => (σ r_Md_element) (400 * e + k)) (sS n D (D + 1)).toNat)] (srl σ []) _
        exact wp_iret rfl ⟨(by repeat (first | rfl | rw [if_pos (by omega)] | rw [if_neg (by omega)])), rfl⟩
    · show en_wp k_X12_words 16 [some (.inr (.inr (r_Md, 0))), some (.inl e), some (.inl what), none] [] (srl σ []) _
      refine wp_run 1 (pc' := 17) (ls' := [some (.inr (.inr (r_Md, 0))), some (.inl e), some (.inl what), none]) (st' := [.inl (-1)]) (σ' := srl σ []) rfl ?_
      exact wp_iret rfl ⟨(by repeat (first | rfl | rw [if_pos (by omega)] | rw [if_neg (by omega)])), rfl⟩
theorem ct_X12_isTooLong (σ : en_m) (n : Int) (D : Int) (p : Int) (a : Int) (b : Int) (hI : mI σ n D p) (hE : R97 (σ r_Md_element)) (h1 : 0 ≤ a ∧ a ≤ 5) (h2 : 0 ≤ b ∧ b ≤ 5) : en_fn z_X12_isTooLong [.inr (.inr (r_Md, 0)), .inl a, .inl b] σ (.inl (bI (0 ≤ sG (fun k => (σ r_Md_element) (400 * a + k)) (sS n D (D + 1)).toNat ∧ 0 ≤ sG (fun k => (σ r_Md_element) (400 * b + k)) (sS n D (D + 1)).toNat ∧ D < sL n D (sG (fun k => (σ r_Md_element) (400 * a + k)) (sS n D (D + 1)).toNat) + sL n D (sG (fun k => (σ r_Md_element) (400 * b + k)) (sS n D (D + 1)).toNat)))) := by
  show en_wp k_X12_isTooLong 0 [some (.inr (.inr (r_Md, 0))), some (.inl a), some (.inl b), none, none] [] (srl σ []) (fun r σ' => r = some (.inl (bI (0 ≤ sG (fun k => (σ r_Md_element) (400 * a + k)) (sS n D (D + 1)).toNat ∧ 0 ≤ sG (fun k => (σ r_Md_element) (400 * b + k)) (sS n D (D + 1)).toNat ∧ D < sL n D (sG (fun k => (σ r_Md_element) (400 * a + k)) (sS n D (D + 1)).toNat) + sL n D (sG (fun k => (σ r_Md_element) (400 * b + k)) (sS n D (D + 1)).toNat)))) ∧ σ' = σ)
  have hI2 := hI
  obtain ⟨hO, hL, hn, hD, hp, hpw, hst⟩ := hI2
  obtain ⟨⟨hO1, hO2⟩, ⟨hO3, hO4⟩, hO5, hO6, hO7, hO8⟩ := id hO
  refine wp_run 2 (pc' := 2) (ls' := [some (.inr (.inr (r_Md, 0))), some (.inl a), some (.inl b), none, none]) (st' := [.inl a, .inr (.inr (r_Md, 0))]) (σ' := srl σ []) rfl ?_
  refine wp_fnv (v := .inl (sG (fun k => (σ r_Md_element) (400 * a + k)) (sS n D (D + 1)).toNat)) rfl rfl rfl rfl (ct_X12_greatestOf σ n D p a hI hE (by omega)) ?_
  show en_wp k_X12_isTooLong 5 [some (.inr (.inr (r_Md, 0))), some (.inl a), some (.inl b), none, none] [.inl (sG (fun k => (σ r_Md_element) (400 * a + k)) (sS n D (D + 1)).toNat)] (srl σ []) _
  have hga := sG_b (fun k => σ r_Md_element (400 * a + k)) (sS n D (D + 1)).toNat
  have hS := sS_b (k := D + 1) hO
  refine wp_run 3 (pc' := 8) (ls' := [some (.inr (.inr (r_Md, 0))), some (.inl a), some (.inl b), some (.inl (sG (fun k => (σ r_Md_element) (400 * a + k)) (sS n D (D + 1)).toNat)), none]) (st' := [.inl b, .inr (.inr (r_Md, 0))]) (σ' := srl σ []) rfl ?_
  refine wp_fnv (v := .inl (sG (fun k => (σ r_Md_element) (400 * b + k)) (sS n D (D + 1)).toNat)) rfl rfl rfl rfl (ct_X12_greatestOf σ n D p b hI hE (by omega)) ?_
  show en_wp k_X12_isTooLong 11 [some (.inr (.inr (r_Md, 0))), some (.inl a), some (.inl b), some (.inl (sG (fun k => (σ r_Md_element) (400 * a + k)) (sS n D (D + 1)).toNat)), none] [.inl (sG (fun k => (σ r_Md_element) (400 * b + k)) (sS n D (D + 1)).toNat)] (srl σ []) _
  have hgb := sG_b (fun k => σ r_Md_element (400 * b + k)) (sS n D (D + 1)).toNat
  refine wp_run 2 (pc' := 14) (ls' := [some (.inr (.inr (r_Md, 0))), some (.inl a), some (.inl b), some (.inl (sG (fun k => (σ r_Md_element) (400 * a + k)) (sS n D (D + 1)).toNat)), some (.inl (sG (fun k => (σ r_Md_element) (400 * b + k)) (sS n D (D + 1)).toNat))]) (st' := [.inl (sG (fun k => (σ r_Md_element) (400 * a + k)) (sS n D (D + 1)).toNat)]) (σ' := srl σ []) rfl ?_
  refine wp_if_lt rfl (by omega) (fun h_1 => ?_) (fun h_1 => ?_)
  · show en_wp k_X12_isTooLong 50 [some (.inr (.inr (r_Md, 0))), some (.inl a), some (.inl b), some (.inl (sG (fun k => (σ r_Md_element) (400 * a + k)) (sS n D (D + 1)).toNat)), some (.inl (sG (fun k => (σ r_Md_element) (400 * b + k)) (sS n D (D + 1)).toNat))] [] (srl σ []) _
    refine wp_run 1 (pc' := 51) (ls' := [some (.inr (.inr (r_Md, 0))), some (.inl a), some (.inl b), some (.inl (sG (fun k => (σ r_Md_element) (400 * a + k)) (sS n D (D + 1)).toNat)), some (.inl (sG (fun k => (σ r_Md_element) (400 * b + k)) (sS n D (D + 1)).toNat))]) (st' := [.inl 0]) (σ' := srl σ []) rfl ?_
    exact wp_zret rfl (.inl rfl) ⟨(by first | rw [bI_t (by omega)] | rw [bI_f (by omega)]), rfl⟩
  · show en_wp k_X12_isTooLong 17 [some (.inr (.inr (r_Md, 0))), some (.inl a), some (.inl b), some (.inl (sG (fun k => (σ r_Md_element) (400 * a + k)) (sS n D (D + 1)).toNat)), some (.inl (sG (fun k => (σ r_Md_element) (400 * b + k)) (sS n D (D + 1)).toNat))] [] (srl σ []) _
    refine wp_run 1 (pc' := 19) (ls' := [some (.inr (.inr (r_Md, 0))), some (.inl a), some (.inl b), some (.inl (sG (fun k => (σ r_Md_element) (400 * a + k)) (sS n D (D + 1)).toNat)), some (.inl (sG (fun k => (σ r_Md_element) (400 * b + k)) (sS n D (D + 1)).toNat))]) (st' := [.inl (sG (fun k => (σ r_Md_element) (400 * b + k)) (sS n D (D + 1)).toNat)]) (σ' := srl σ []) rfl ?_
    refine wp_if_lt rfl (by omega) (fun h_2 => ?_) (fun h_2 => ?_)
    · show en_wp k_X12_isTooLong 50 [some (.inr (.inr (r_Md, 0))), some (.inl a), some (.inl b), some (.inl (sG (fun k => (σ r_Md_element) (400 * a + k)) (sS n D (D + 1)).toNat)), some (.inl (sG (fun k => (σ r_Md_element) (400 * b + k)) (sS n D (D + 1)).toNat))] [] (srl σ []) _
      refine wp_run 1 (pc' := 51) (ls' := [some (.inr (.inr (r_Md, 0))), some (.inl a), some (.inl b), some (.inl (sG (fun k => (σ r_Md_element) (400 * a + k)) (sS n D (D + 1)).toNat)), some (.inl (sG (fun k => (σ r_Md_element) (400 * b + k)) (sS n D (D + 1)).toNat))]) (st' := [.inl 0]) (σ' := srl σ []) rfl ?_
      exact wp_zret rfl (.inl rfl) ⟨(by first | rw [bI_t (by omega)] | rw [bI_f (by omega)]), rfl⟩
    · show en_wp k_X12_isTooLong 22 [some (.inr (.inr (r_Md, 0))), some (.inl a), some (.inl b), some (.inl (sG (fun k => (σ r_Md_element) (400 * a + k)) (sS n D (D + 1)).toNat)), some (.inl (sG (fun k => (σ r_Md_element) (400 * b + k)) (sS n D (D + 1)).toNat))] [] (srl σ []) _
      refine wp_run 2 (pc' := 24) (ls' := [some (.inr (.inr (r_Md, 0))), some (.inl a), some (.inl b), some (.inl (sG (fun k => (σ r_Md_element) (400 * a + k)) (sS n D (D + 1)).toNat)), some (.inl (sG (fun k => (σ r_Md_element) (400 * b + k)) (sS n D (D + 1)).toNat))]) (st' := [.inl (sG (fun k => (σ r_Md_element) (400 * a + k)) (sS n D (D + 1)).toNat), .inr (.inr (r_Md, 0))]) (σ' := srl σ []) rfl ?_
      refine wp_fnv (v := .inl (sL n D (sG (fun k => (σ r_Md_element) (400 * a + k)) (sS n D (D + 1)).toNat))) rfl rfl rfl rfl (ct_X12_lengthAt σ n D p (sG (fun k => (σ r_Md_element) (400 * a + k)) (sS n D (D + 1)).toNat) hI (by omega)) ?_
      show en_wp k_X12_isTooLong 27 [some (.inr (.inr (r_Md, 0))), some (.inl a), some (.inl b), some (.inl (sG (fun k => (σ r_Md_element) (400 * a + k)) (sS n D (D + 1)).toNat)), some (.inl (sG (fun k => (σ r_Md_element) (400 * b + k)) (sS n D (D + 1)).toNat))] [.inl (sL n D (sG (fun k => (σ r_Md_element) (400 * a + k)) (sS n D (D + 1)).toNat))] (srl σ []) _
      have q_3 : 0 ≤ sL n D (sG (fun k => (σ r_Md_element) (400 * a + k)) (sS n D (D + 1)).toNat) ∧ sL n D (sG (fun k => (σ r_Md_element) (400 * a + k)) (sS n D (D + 1)).toNat) ≤ 7 := sL_b _ _ _
      refine wp_run 2 (pc' := 30) (ls' := [some (.inr (.inr (r_Md, 0))), some (.inl a), some (.inl b), some (.inl (sG (fun k => (σ r_Md_element) (400 * a + k)) (sS n D (D + 1)).toNat)), some (.inl (sG (fun k => (σ r_Md_element) (400 * b + k)) (sS n D (D + 1)).toNat))]) (st' := [.inl (sG (fun k => (σ r_Md_element) (400 * b + k)) (sS n D (D + 1)).toNat), .inr (.inr (r_Md, 0)), .inl (sL n D (sG (fun k => (σ r_Md_element) (400 * a + k)) (sS n D (D + 1)).toNat))]) (σ' := srl σ []) rfl ?_
      refine wp_fnv (v := .inl (sL n D (sG (fun k => (σ r_Md_element) (400 * b + k)) (sS n D (D + 1)).toNat))) rfl rfl rfl rfl (ct_X12_lengthAt σ n D p (sG (fun k => (σ r_Md_element) (400 * b + k)) (sS n D (D + 1)).toNat) hI (by omega)) ?_
      show en_wp k_X12_isTooLong 33 [some (.inr (.inr (r_Md, 0))), some (.inl a), some (.inl b), some (.inl (sG (fun k => (σ r_Md_element) (400 * a + k)) (sS n D (D + 1)).toNat)), some (.inl (sG (fun k => (σ r_Md_element) (400 * b + k)) (sS n D (D + 1)).toNat))] [.inl (sL n D (sG (fun k => (σ r_Md_element) (400 * b + k)) (sS n D (D + 1)).toNat)), .inl (sL n D (sG (fun k => (σ r_Md_element) (400 * a + k)) (sS n D (D + 1)).toNat))] (srl σ []) _
      have q_4 : 0 ≤ sL n D (sG (fun k => (σ r_Md_element) (400 * b + k)) (sS n D (D + 1)).toNat) ∧ sL n D (sG (fun k => (σ r_Md_element) (400 * b + k)) (sS n D (D + 1)).toNat) ≤ 7 := sL_b _ _ _
      refine wp_run 5 (pc' := 42) (ls' := [some (.inr (.inr (r_Md, 0))), some (.inl a), some (.inl b), some (.inl (sG (fun k => (σ r_Md_element) (400 * a + k)) (sS n D (D + 1)).toNat)), some (.inl (sG (fun k => (σ r_Md_element) (400 * b + k)) (sS n D (D + 1)).toNat))]) (st' := [.inl (σ r_Md_live 0), .inr (.inr (r_Md_degree, 0)), .inl ((sL n D (sG (fun k => (σ r_Md_element) (400 * a + k)) (sS n D (D + 1)).toNat)) + (sL n D (sG (fun k => (σ r_Md_element) (400 * b + k)) (sS n D (D + 1)).toNat)))]) (σ' := srl σ []) rfl ?_
      refine wp_iald0 rfl rfl (by omega) ?_
      show en_wp k_X12_isTooLong 43 [some (.inr (.inr (r_Md, 0))), some (.inl a), some (.inl b), some (.inl (sG (fun k => (σ r_Md_element) (400 * a + k)) (sS n D (D + 1)).toNat)), some (.inl (sG (fun k => (σ r_Md_element) (400 * b + k)) (sS n D (D + 1)).toNat))] [.inl (σ r_Md_degree (σ r_Md_live 0)), .inl ((sL n D (sG (fun k => (σ r_Md_element) (400 * a + k)) (sS n D (D + 1)).toNat)) + (sL n D (sG (fun k => (σ r_Md_element) (400 * b + k)) (sS n D (D + 1)).toNat)))] (srl σ []) _
      refine wp_ic_le rfl (by omega) (by omega) (fun h_5 => ?_) (fun h_5 => ?_)
      · rw [hD] at h_5
        show en_wp k_X12_isTooLong 50 [some (.inr (.inr (r_Md, 0))), some (.inl a), some (.inl b), some (.inl (sG (fun k => (σ r_Md_element) (400 * a + k)) (sS n D (D + 1)).toNat)), some (.inl (sG (fun k => (σ r_Md_element) (400 * b + k)) (sS n D (D + 1)).toNat))] [] (srl σ []) _
        refine wp_run 1 (pc' := 51) (ls' := [some (.inr (.inr (r_Md, 0))), some (.inl a), some (.inl b), some (.inl (sG (fun k => (σ r_Md_element) (400 * a + k)) (sS n D (D + 1)).toNat)), some (.inl (sG (fun k => (σ r_Md_element) (400 * b + k)) (sS n D (D + 1)).toNat))]) (st' := [.inl 0]) (σ' := srl σ []) rfl ?_
        exact wp_zret rfl (.inl rfl) ⟨(by first | rw [bI_t (by omega)] | rw [bI_f (by omega)]), rfl⟩
      · rw [hD] at h_5
        show en_wp k_X12_isTooLong 46 [some (.inr (.inr (r_Md, 0))), some (.inl a), some (.inl b), some (.inl (sG (fun k => (σ r_Md_element) (400 * a + k)) (sS n D (D + 1)).toNat)), some (.inl (sG (fun k => (σ r_Md_element) (400 * b + k)) (sS n D (D + 1)).toNat))] [] (srl σ []) _
        refine wp_run 2 (pc' := 51) (ls' := [some (.inr (.inr (r_Md, 0))), some (.inl a), some (.inl b), some (.inl (sG (fun k => (σ r_Md_element) (400 * a + k)) (sS n D (D + 1)).toNat)), some (.inl (sG (fun k => (σ r_Md_element) (400 * b + k)) (sS n D (D + 1)).toNat))]) (st' := [.inl 1]) (σ' := srl σ []) rfl ?_
        exact wp_zret rfl (.inr rfl) ⟨(by first | rw [bI_t (by omega)] | rw [bI_f (by omega)]), rfl⟩
theorem ct_X12_put_ (σ : en_m) (n : Int) (D : Int) (p : Int) (e : Int) (w : Int) (c : Int) (hI : mI σ n D p) (h1 : i32 e) (h2 : i32 w) (h3 : i32 c) : en_ct z_X12_put_ [.inr (.inr (r_Md, 0)), .inl e, .inl w, .inl c] σ (fun r σ' => ∃ (f_Md_element : Int → Int), r = some (.inl (bI ((0 ≤ e ∧ e ≤ 5) ∧ 0 ≤ sAt n D w))) ∧ σ' = srl σ [(r_Md_element, f_Md_element)] ∧ (f_Md_element = if (0 ≤ e ∧ e ≤ 5) ∧ 0 ≤ sAt n D w then up ((σ r_Md_element)) (400 * e + sAt n D w) (c % p) else (σ r_Md_element))) := by
  show en_wp k_X12_put_ 0 [some (.inr (.inr (r_Md, 0))), some (.inl e), some (.inl w), some (.inl c), none] [] (srl σ []) (fun r σ' => ∃ (f_Md_element : Int → Int), r = some (.inl (bI ((0 ≤ e ∧ e ≤ 5) ∧ 0 ≤ sAt n D w))) ∧ σ' = srl σ [(r_Md_element, f_Md_element)] ∧ (f_Md_element = if (0 ≤ e ∧ e ≤ 5) ∧ 0 ≤ sAt n D w then up ((σ r_Md_element)) (400 * e + sAt n D w) (c % p) else (σ r_Md_element)))
  have hI2 := hI
  obtain ⟨hO, hL, hn, hD, hp, hpw, hst⟩ := hI2
  obtain ⟨⟨hO1, hO2⟩, ⟨hO3, hO4⟩, hO5, hO6, hO7, hO8⟩ := id hO
  refine wp_run 2 (pc' := 2) (ls' := [some (.inr (.inr (r_Md, 0))), some (.inl e), some (.inl w), some (.inl c), none]) (st' := [.inl w, .inr (.inr (r_Md, 0))]) (σ' := srl σ []) rfl ?_
  refine wp_fnv (v := .inl (sAt n D w)) rfl rfl rfl rfl (ct_X12_wordAt σ n D p w hI (by omega)) ?_
  show en_wp k_X12_put_ 5 [some (.inr (.inr (r_Md, 0))), some (.inl e), some (.inl w), some (.inl c), none] [.inl (sAt n D w)] (srl σ []) _
  have q_1 : -1 ≤ sAt n D w ∧ sAt n D w < 364 := sAt_b hO
  refine wp_run 2 (pc' := 8) (ls' := [some (.inr (.inr (r_Md, 0))), some (.inl e), some (.inl w), some (.inl c), some (.inl (sAt n D w))]) (st' := [.inl e]) (σ' := srl σ []) rfl ?_
  refine wp_fns (v := .inl (bI (0 ≤ e ∧ e ≤ 5))) rfl rfl rfl rfl rfl (ct_X12_isElement σ e (by omega)) ?_
  show en_wp k_X12_put_ 11 [some (.inr (.inr (r_Md, 0))), some (.inl e), some (.inl w), some (.inl c), some (.inl (sAt n D w))] [.inl (bI (0 ≤ e ∧ e ≤ 5))] (srl σ []) _
  refine wp_if_eqb rfl (fun h_2 => ?_) (fun h_2 => ?_)
  · show en_wp k_X12_put_ 19 [some (.inr (.inr (r_Md, 0))), some (.inl e), some (.inl w), some (.inl c), some (.inl (sAt n D w))] [] (srl σ []) _
    refine wp_run 1 (pc' := 20) (ls' := [some (.inr (.inr (r_Md, 0))), some (.inl e), some (.inl w), some (.inl c), some (.inl (sAt n D w))]) (st' := [.inl 0]) (σ' := srl σ []) rfl ?_
    exact wp_zret rfl (.inl rfl) ⟨(σ r_Md_element), (by first | rfl | (rw [bI_t (by omega)]) | (rw [bI_f (by omega)])), srl_eq (l' := [(r_Md_element, σ r_Md_element)]) trivial (And.intro rfl trivial), (by first | rw [if_pos (by omega)] | rw [if_neg (by omega)])⟩
  · show en_wp k_X12_put_ 14 [some (.inr (.inr (r_Md, 0))), some (.inl e), some (.inl w), some (.inl c), some (.inl (sAt n D w))] [] (srl σ []) _
    refine wp_run 1 (pc' := 16) (ls' := [some (.inr (.inr (r_Md, 0))), some (.inl e), some (.inl w), some (.inl c), some (.inl (sAt n D w))]) (st' := [.inl (sAt n D w)]) (σ' := srl σ []) rfl ?_
    refine wp_if_ge rfl (by omega) (fun h_3 => ?_) (fun h_3 => ?_)
    · show en_wp k_X12_put_ 21 [some (.inr (.inr (r_Md, 0))), some (.inl e), some (.inl w), some (.inl c), some (.inl (sAt n D w))] [] (srl σ []) _
      refine wp_run 9 (pc' := 35) (ls' := [some (.inr (.inr (r_Md, 0))), some (.inl e), some (.inl w), some (.inl c), some (.inl (sAt n D w))]) (st' := [.inl c, .inr (.inr (r_Md, 0)), .inl ((400 * e) + (sAt n D w)), .inr (.inr (r_Md_element, 0))]) (σ' := srl σ []) rfl ?_
      refine wp_i2l rfl (by omega) ?_
      show en_wp k_X12_put_ 36 [some (.inr (.inr (r_Md, 0))), some (.inl e), some (.inl w), some (.inl c), some (.inl (sAt n D w))] [.inr (.inl c), .inr (.inr (r_Md, 0)), .inl ((400 * e) + (sAt n D w)), .inr (.inr (r_Md_element, 0))] (srl σ []) _
      refine wp_fnv (v := .inl (c % p)) rfl rfl rfl rfl (ct_X12_rest σ n D p c hI (by omega)) ?_
      show en_wp k_X12_put_ 39 [some (.inr (.inr (r_Md, 0))), some (.inl e), some (.inl w), some (.inl c), some (.inl (sAt n D w))] [.inl (c % p), .inl ((400 * e) + (sAt n D w)), .inr (.inr (r_Md_element, 0))] (srl σ []) _
      have q_4 : 0 ≤ c % p ∧ c % p < p := sR_lt hO.2.2.2
      refine wp_iast0 rfl rfl (by omega) (wp_wr (l2 := [(r_Md_element, (up (σ r_Md_element) ((400 * e) + (sAt n D w)) (c % p)))]) rfl ?_)
      show en_wp k_X12_put_ 40 [some (.inr (.inr (r_Md, 0))), some (.inl e), some (.inl w), some (.inl c), some (.inl (sAt n D w))] [] (srl σ [(r_Md_element, (up (σ r_Md_element) ((400 * e) + (sAt n D w)) (c % p)))]) _
      refine wp_run 1 (pc' := 41) (ls' := [some (.inr (.inr (r_Md, 0))), some (.inl e), some (.inl w), some (.inl c), some (.inl (sAt n D w))]) (st' := [.inl 1]) (σ' := srl σ [(r_Md_element, (up (σ r_Md_element) ((400 * e) + (sAt n D w)) (c % p)))]) rfl ?_
      exact wp_zret rfl (.inr rfl) ⟨(up (σ r_Md_element) ((400 * e) + (sAt n D w)) (c % p)), (by first | rfl | (rw [bI_t (by omega)]) | (rw [bI_f (by omega)])), srl_eq (l' := [(r_Md_element, (up (σ r_Md_element) ((400 * e) + (sAt n D w)) (c % p)))]) (And.intro rfl trivial) (And.intro rfl trivial), (by first | rw [if_pos (by omega)] | rw [if_neg (by omega)])⟩
    · show en_wp k_X12_put_ 19 [some (.inr (.inr (r_Md, 0))), some (.inl e), some (.inl w), some (.inl c), some (.inl (sAt n D w))] [] (srl σ []) _
      refine wp_run 1 (pc' := 20) (ls' := [some (.inr (.inr (r_Md, 0))), some (.inl e), some (.inl w), some (.inl c), some (.inl (sAt n D w))]) (st' := [.inl 0]) (σ' := srl σ []) rfl ?_
      exact wp_zret rfl (.inl rfl) ⟨(σ r_Md_element), (by first | rfl | (rw [bI_t (by omega)]) | (rw [bI_f (by omega)])), srl_eq (l' := [(r_Md_element, σ r_Md_element)]) trivial (And.intro rfl trivial), (by first | rw [if_pos (by omega)] | rw [if_neg (by omega)])⟩
theorem ct_X12_rowAt (σ : en_m) (n : Int) (D : Int) (p : Int) (q : Int) (d : Int) (k : Int) (hI : mI σ n D p) (hq : q = 0 ∨ q = 1) (hd : 0 ≤ d ∧ d ≤ D) (hrs : (σ r_Md_rowStart) (9 * q + d) = sQ n D d) (hk : 0 ≤ k ∧ k ≤ 256) : en_fn z_X12_rowAt [.inr (.inr (r_Md, 0)), .inl q, .inl d, .inl k] σ (.inl (70000 * q + sQ n D d + k * sW n D d)) := by
  show en_wp k_X12_rowAt 0 [some (.inr (.inr (r_Md, 0))), some (.inl q), some (.inl d), some (.inl k)] [] (srl σ []) (fun r σ' => r = some (.inl (70000 * q + sQ n D d + k * sW n D d)) ∧ σ' = σ)
  have hI2 := hI
  obtain ⟨hO, hL, hn, hD, hp, hpw, hst⟩ := hI2
  obtain ⟨⟨hO1, hO2⟩, ⟨hO3, hO4⟩, hO5, hO6, hO7, hO8⟩ := id hO
  refine wp_run 10 (pc' := 15) (ls' := [some (.inr (.inr (r_Md, 0))), some (.inl q), some (.inl d), some (.inl k)]) (st' := [.inl ((9 * q) + d), .inr (.inr (r_Md_rowStart, 0)), .inl (70000 * q)]) (σ' := srl σ []) rfl ?_
  refine wp_iald0 rfl rfl (by omega) ?_
  show en_wp k_X12_rowAt 16 [some (.inr (.inr (r_Md, 0))), some (.inl q), some (.inl d), some (.inl k)] [.inl (σ r_Md_rowStart ((9 * q) + d)), .inl (70000 * q)] (srl σ []) _
  refine wp_run 4 (pc' := 20) (ls' := [some (.inr (.inr (r_Md, 0))), some (.inl q), some (.inl d), some (.inl k)]) (st' := [.inl d, .inr (.inr (r_Md, 0)), .inl k, .inl ((70000 * q) + (σ r_Md_rowStart ((9 * q) + d)))]) (σ' := srl σ []) rfl ?_
  refine wp_fnv (v := .inl (sW n D d)) rfl rfl rfl rfl (ct_X12_wide σ n D p d hI (by omega)) ?_
  show en_wp k_X12_rowAt 23 [some (.inr (.inr (r_Md, 0))), some (.inl q), some (.inl d), some (.inl k)] [.inl (sW n D d), .inl k, .inl ((70000 * q) + (σ r_Md_rowStart ((9 * q) + d)))] (srl σ []) _
  have q_1 : 0 ≤ sW n D d ∧ sW n D d ≤ 256 := sW_b hO
  refine wp_run 2 (pc' := 25) (ls' := [some (.inr (.inr (r_Md, 0))), some (.inl q), some (.inl d), some (.inl k)]) (st' := [.inl (((70000 * q) + (σ r_Md_rowStart ((9 * q) + d))) + (k * (sW n D d)))]) (σ' := srl σ []) rfl ?_
  exact wp_iret rfl ⟨(by rw [hrs]), rfl⟩
theorem ct_X12_reduces (σ : en_m) (n : Int) (D : Int) (p : Int) (q : Int) (d : Int) (hI : mI σ n D p) (hq : q = 0 ∨ q = 1) (hd : 0 ≤ d ∧ d ≤ D) (hrs : (σ r_Md_rowStart) (9 * q + d) = sQ n D d) (hrow : R97 ((σ r_Md_row))) (hrows : R97 ((σ r_Md_rows))) (hlead : R01 ((σ r_Md_leads))) (hrp : ∀ j, 0 ≤ j → j < sW n D d → 0 ≤ (σ r_Md_row) j ∧ (σ r_Md_row) j < p) (hun : ∀ k, 0 ≤ k → k < sW n D d → (σ r_Md_leads) (400 * q + sS n D d + k) = 1 → (σ r_Md_rows) (70000 * q + sQ n D d + k * sW n D d + k) = 1) : en_ct z_X12_reduces [.inr (.inr (r_Md, 0)), .inl q, .inl d] σ (fun r σ' => ∃ (f_Md_row : Int → Int), ∃ (rr : Int), r = some (.inl rr) ∧ σ' = srl σ [(r_Md_row, f_Md_row)] ∧ (rdI p (sW n D d) (fun x => (σ r_Md_leads) (400 * q + sS n D d + x)) (fun k x => (σ r_Md_rows) (70000 * q + sQ n D d + k * sW n D d + x)) ((σ r_Md_row)) f_Md_row (-1) rr)) := by
  show en_wp k_X12_reduces 0 [some (.inr (.inr (r_Md, 0))), some (.inl q), some (.inl d), none, none, none, none, none] [] (srl σ []) (fun r σ' => ∃ (f_Md_row : Int → Int), ∃ (rr : Int), r = some (.inl rr) ∧ σ' = srl σ [(r_Md_row, f_Md_row)] ∧ (rdI p (sW n D d) (fun x => (σ r_Md_leads) (400 * q + sS n D d + x)) (fun k x => (σ r_Md_rows) (70000 * q + sQ n D d + k * sW n D d + x)) ((σ r_Md_row)) f_Md_row (-1) rr))
  have hI2 := hI
  obtain ⟨hO, hL, hn, hD, hp, hpw, hst⟩ := hI2
  obtain ⟨⟨hO1, hO2⟩, ⟨hO3, hO4⟩, hO5, hO6, hO7, hO8⟩ := id hO
  have hWb := sW_b (k := d) hO
  have hSb := sS_b (k := d) hO
  have L_11 : ∀ (N : Nat) (k : Int) (l : Int) (X : Int → Int), (-1 ≤ k ∧ k < sW n D d) → (-1 ≤ l ∧ l < 256) → (rdI p (sW n D d) (fun x => σ r_Md_leads (400 * q + sS n D d + x)) (fun k x => σ r_Md_rows (70000 * q + sQ n D d + k * sW n D d + x)) (σ r_Md_row) X k l) → (k + 1).toNat < N → en_wp k_X12_reduces 11 [some (.inr (.inr (r_Md, 0))), some (.inl q), some (.inl d), some (.inl l), some (.inl k), none, none, none] [] (srl σ [(r_Md_row, X)]) (fun r σ' => ∃ (f_Md_row : Int → Int), ∃ (rr : Int), r = some (.inl rr) ∧ σ' = srl σ [(r_Md_row, f_Md_row)] ∧ (rdI p (sW n D d) (fun x => (σ r_Md_leads) (400 * q + sS n D d + x)) (fun k x => (σ r_Md_rows) (70000 * q + sQ n D d + k * sW n D d + x)) ((σ r_Md_row)) f_Md_row (-1) rr)) := by
    intro N
    induction N with
    | zero => intro k l X; intros; omega
    | succ N ih_11 =>
      intro k l X hk hll hrd hN_11
      have hWb := sW_b (k := d) hO
      have hX := hrd.1
      have L_83 : ∀ (N : Nat) (j : Int) (Y : Int → Int), (0 ≤ k) → (σ r_Md_leads (400 * q + sS n D d + k) = 1) → (0 ≤ j ∧ j ≤ k + 1) → (Y = seg X 0 j (fun x => (X x - X k * σ r_Md_rows (70000 * q + sQ n D d + k * sW n D d + x)) % p)) → (k + 1 - j).toNat < N → en_wp k_X12_reduces 83 [some (.inr (.inr (r_Md, 0))), some (.inl q), some (.inl d), some (.inl l), some (.inl k), some (.inl (X k)), some (.inl (70000 * q + sQ n D d + k * sW n D d)), some (.inl j)] [] (srl σ [(r_Md_row, Y)]) (fun r σ' => ∃ (f_Md_row : Int → Int), ∃ (rr : Int), r = some (.inl rr) ∧ σ' = srl σ [(r_Md_row, f_Md_row)] ∧ (rdI p (sW n D d) (fun x => (σ r_Md_leads) (400 * q + sS n D d + x)) (fun k x => (σ r_Md_rows) (70000 * q + sQ n D d + k * sW n D d + x)) ((σ r_Md_row)) f_Md_row (-1) rr)) := by
        intro N
        induction N with
        | zero => intro j Y; intros; omega
        | succ N ih_83 =>
          intro j Y h0k hk1 hj hY hN_83
          refine wp_run 2 (pc' := 87) (ls' := [some (.inr (.inr (r_Md, 0))), some (.inl q), some (.inl d), some (.inl l), some (.inl k), some (.inl (X k)), some (.inl (70000 * q + sQ n D d + k * sW n D d)), some (.inl j)]) (st' := [.inl k, .inl j]) (σ' := srl σ [(r_Md_row, Y)]) rfl ?_
          refine wp_ic_gt rfl (by omega) (by omega) (fun h_1 => ?_) (fun h_1 => ?_)
          · have hj2 : j = k + 1 := by omega
            rw [hj2] at hY
            show en_wp k_X12_reduces 131 [some (.inr (.inr (r_Md, 0))), some (.inl q), some (.inl d), some (.inl l), some (.inl k), some (.inl (X k)), some (.inl (70000 * q + sQ n D d + k * sW n D d)), some (.inl j)] [] (srl σ [(r_Md_row, Y)]) _
            refine wp_run 2 (pc' := 11) (ls' := [some (.inr (.inr (r_Md, 0))), some (.inl q), some (.inl d), some (.inl l), some (.inl (k + (-1))), some (.inl (X k)), some (.inl (70000 * q + sQ n D d + k * sW n D d)), some (.inl j)]) (st' := []) (σ' := srl σ [(r_Md_row, Y)]) rfl ?_
            refine wp_sub (l := [some (.inr (.inr (r_Md, 0))), some (.inl q), some (.inl d), some (.inl l), some (.inl (k + (-1))), none, none, none]) (And.intro rfl (And.intro rfl (And.intro rfl (And.intro rfl (And.intro rfl trivial))))) ?_
            exact ih_11 (k + (-1)) l Y (by omega) (by omega) (rd_step (p := p) ⟨by omega, by omega⟩ hrd h0k (by omega) hk1 (hun k h0k (by omega) hk1) hY) (by omega)
          · show en_wp k_X12_reduces 90 [some (.inr (.inr (r_Md, 0))), some (.inl q), some (.inl d), some (.inl l), some (.inl k), some (.inl (X k)), some (.inl (70000 * q + sQ n D d + k * sW n D d)), some (.inl j)] [] (srl σ [(r_Md_row, Y)]) _
            refine wp_run 7 (pc' := 103) (ls' := [some (.inr (.inr (r_Md, 0))), some (.inl q), some (.inl d), some (.inl l), some (.inl k), some (.inl (X k)), some (.inl (70000 * q + sQ n D d + k * sW n D d)), some (.inl j)]) (st' := [.inl j, .inr (.inr (r_Md_row, 0)), .inr (.inr (r_Md, 0)), .inl j, .inr (.inr (r_Md_row, 0))]) (σ' := srl σ [(r_Md_row, Y)]) rfl ?_
            refine wp_iald0 rfl rfl (by omega) ?_
            show en_wp k_X12_reduces 104 [some (.inr (.inr (r_Md, 0))), some (.inl q), some (.inl d), some (.inl l), some (.inl k), some (.inl (X k)), some (.inl (70000 * q + sQ n D d + k * sW n D d)), some (.inl j)] [.inl (Y j), .inr (.inr (r_Md, 0)), .inl j, .inr (.inr (r_Md_row, 0))] (srl σ [(r_Md_row, Y)]) _
            have hx1 := hX k
            have hy1 : 0 ≤ Y j ∧ Y j < 97 := by rw [hY]; exact R97_seg hX (fun x _ _ => by have := @sR_lt p (X x - X k * σ r_Md_rows (70000 * q + sQ n D d + k * sW n D d + x)) hO.2.2.2; omega) j
            refine wp_i2l rfl (by omega) ?_
            show en_wp k_X12_reduces 105 [some (.inr (.inr (r_Md, 0))), some (.inl q), some (.inl d), some (.inl l), some (.inl k), some (.inl (X k)), some (.inl (70000 * q + sQ n D d + k * sW n D d)), some (.inl j)] [.inr (.inl (Y j)), .inr (.inr (r_Md, 0)), .inl j, .inr (.inr (r_Md_row, 0))] (srl σ [(r_Md_row, Y)]) _
            refine wp_run 1 (pc' := 107) (ls' := [some (.inr (.inr (r_Md, 0))), some (.inl q), some (.inl d), some (.inl l), some (.inl k), some (.inl (X k)), some (.inl (70000 * q + sQ n D d + k * sW n D d)), some (.inl j)]) (st' := [.inl (X k), .inr (.inl (Y j)), .inr (.inr (r_Md, 0)), .inl j, .inr (.inr (r_Md_row, 0))]) (σ' := srl σ [(r_Md_row, Y)]) rfl ?_
            refine wp_i2l rfl (by omega) ?_
            show en_wp k_X12_reduces 108 [some (.inr (.inr (r_Md, 0))), some (.inl q), some (.inl d), some (.inl l), some (.inl k), some (.inl (X k)), some (.inl (70000 * q + sQ n D d + k * sW n D d)), some (.inl j)] [.inr (.inl (X k)), .inr (.inl (Y j)), .inr (.inr (r_Md, 0)), .inl j, .inr (.inr (r_Md_row, 0))] (srl σ [(r_Md_row, Y)]) _
            refine wp_run 5 (pc' := 117) (ls' := [some (.inr (.inr (r_Md, 0))), some (.inl q), some (.inl d), some (.inl l), some (.inl k), some (.inl (X k)), some (.inl (70000 * q + sQ n D d + k * sW n D d)), some (.inl j)]) (st' := [.inl ((70000 * q + sQ n D d + k * sW n D d) + j), .inr (.inr (r_Md_rows, 0)), .inr (.inl (X k)), .inr (.inl (Y j)), .inr (.inr (r_Md, 0)), .inl j, .inr (.inr (r_Md_row, 0))]) (σ' := srl σ [(r_Md_row, Y)]) rfl ?_
            have hat := sQ_in hO hd.1 (show 0 ≤ k ∧ k < sW n D d by omega) (show 0 ≤ j ∧ j < sW n D d by omega)
            refine wp_iald0 rfl rfl (by omega) ?_
            show en_wp k_X12_reduces 118 [some (.inr (.inr (r_Md, 0))), some (.inl q), some (.inl d), some (.inl l), some (.inl k), some (.inl (X k)), some (.inl (70000 * q + sQ n D d + k * sW n D d)), some (.inl j)] [.inl (σ r_Md_rows ((70000 * q + sQ n D d + k * sW n D d) + j)), .inr (.inl (X k)), .inr (.inl (Y j)), .inr (.inr (r_Md, 0)), .inl j, .inr (.inr (r_Md_row, 0))] (srl σ [(r_Md_row, Y)]) _
            have hr1 := hrows (70000 * q + sQ n D d + k * sW n D d + j)
            have hm1 := m97 hx1 hr1
            refine wp_i2l rfl (by omega) ?_
            show en_wp k_X12_reduces 119 [some (.inr (.inr (r_Md, 0))), some (.inl q), some (.inl d), some (.inl l), some (.inl k), some (.inl (X k)), some (.inl (70000 * q + sQ n D d + k * sW n D d)), some (.inl j)] [.inr (.inl (σ r_Md_rows ((70000 * q + sQ n D d + k * sW n D d) + j))), .inr (.inl (X k)), .inr (.inl (Y j)), .inr (.inr (r_Md, 0)), .inl j, .inr (.inr (r_Md_row, 0))] (srl σ [(r_Md_row, Y)]) _
            refine wp_run 2 (pc' := 121) (ls' := [some (.inr (.inr (r_Md, 0))), some (.inl q), some (.inl d), some (.inl l), some (.inl k), some (.inl (X k)), some (.inl (70000 * q + sQ n D d + k * sW n D d)), some (.inl j)]) (st' := [.inr (.inl ((Y j) - ((X k) * (σ r_Md_rows ((70000 * q + sQ n D d + k * sW n D d) + j))))), .inr (.inr (r_Md, 0)), .inl j, .inr (.inr (r_Md_row, 0))]) (σ' := srl σ [(r_Md_row, Y)]) rfl ?_
            refine wp_fnv (v := .inl (((Y j) - ((X k) * (σ r_Md_rows ((70000 * q + sQ n D d + k * sW n D d) + j)))) % p)) rfl rfl rfl rfl (ct_X12_rest (srl σ [(r_Md_row, Y)]) n D p ((Y j) - ((X k) * (σ r_Md_rows ((70000 * q + sQ n D d + k * sW n D d) + j)))) hI (by omega)) ?_
            show en_wp k_X12_reduces 124 [some (.inr (.inr (r_Md, 0))), some (.inl q), some (.inl d), some (.inl l), some (.inl k), some (.inl (X k)), some (.inl (70000 * q + sQ n D d + k * sW n D d)), some (.inl j)] [.inl (((Y j) - ((X k) * (σ r_Md_rows ((70000 * q + sQ n D d + k * sW n D d) + j)))) % p), .inl j, .inr (.inr (r_Md_row, 0))] (srl σ [(r_Md_row, Y)]) _
            have q_2 : 0 ≤ ((Y j) - ((X k) * (σ r_Md_rows ((70000 * q + sQ n D d + k * sW n D d) + j)))) % p ∧ ((Y j) - ((X k) * (σ r_Md_rows ((70000 * q + sQ n D d + k * sW n D d) + j)))) % p < p := sR_lt hO.2.2.2
            refine wp_iast0 rfl rfl (by omega) (wp_wr (l2 := [(r_Md_row, (up Y j (((Y j) - ((X k) * (σ r_Md_rows ((70000 * q + sQ n D d + k * sW n D d) + j)))) % p)))]) rfl ?_)
            show en_wp k_X12_reduces 125 [some (.inr (.inr (r_Md, 0))), some (.inl q), some (.inl d), some (.inl l), some (.inl k), some (.inl (X k)), some (.inl (70000 * q + sQ n D d + k * sW n D d)), some (.inl j)] [] (srl σ [(r_Md_row, (up Y j (((Y j) - ((X k) * (σ r_Md_rows ((70000 * q + sQ n D d + k * sW n D d) + j)))) % p)))]) _
            refine wp_run 2 (pc' := 83) (ls' := [some (.inr (.inr (r_Md, 0))), some (.inl q), some (.inl d), some (.inl l), some (.inl k), some (.inl (X k)), some (.inl (70000 * q + sQ n D d + k * sW n D d)), some (.inl (j + 1))]) (st' := []) (σ' := srl σ [(r_Md_row, (up Y j (((Y j) - ((X k) * (σ r_Md_rows ((70000 * q + sQ n D d + k * sW n D d) + j)))) % p)))]) rfl ?_
            exact ih_83 (j + 1) (up Y j (((Y j) - ((X k) * (σ r_Md_rows ((70000 * q + sQ n D d + k * sW n D d) + j)))) % p)) (by omega) hk1 (by omega) (by rw [hY]; exact seg_up0 hj.1 (by rw [seg_out (by omega)])) (by omega)
      refine wp_run 1 (pc' := 13) (ls' := [some (.inr (.inr (r_Md, 0))), some (.inl q), some (.inl d), some (.inl l), some (.inl k), none, none, none]) (st' := [.inl k]) (σ' := srl σ [(r_Md_row, X)]) rfl ?_
      refine wp_if_lt rfl (by omega) (fun h_3 => ?_) (fun h_3 => ?_)
      · show en_wp k_X12_reduces 137 [some (.inr (.inr (r_Md, 0))), some (.inl q), some (.inl d), some (.inl l), some (.inl k), none, none, none] [] (srl σ [(r_Md_row, X)]) _
        refine wp_run 1 (pc' := 138) (ls' := [some (.inr (.inr (r_Md, 0))), some (.inl q), some (.inl d), some (.inl l), some (.inl k), none, none, none]) (st' := [.inl l]) (σ' := srl σ [(r_Md_row, X)]) rfl ?_
        exact wp_iret rfl ⟨X, l, rfl, srl_eq (l' := [(r_Md_row, X)]) (And.intro rfl trivial) (And.intro rfl trivial), (by rw [show (-1 : Int) = k by omega]; exact hrd)⟩
      · show en_wp k_X12_reduces 16 [some (.inr (.inr (r_Md, 0))), some (.inl q), some (.inl d), some (.inl l), some (.inl k), none, none, none] [] (srl σ [(r_Md_row, X)]) _
        refine wp_run 3 (pc' := 22) (ls' := [some (.inr (.inr (r_Md, 0))), some (.inl q), some (.inl d), some (.inl l), some (.inl k), none, none, none]) (st' := [.inl k, .inr (.inr (r_Md_row, 0))]) (σ' := srl σ [(r_Md_row, X)]) rfl ?_
        refine wp_iald0 rfl rfl (by omega) ?_
        show en_wp k_X12_reduces 23 [some (.inr (.inr (r_Md, 0))), some (.inl q), some (.inl d), some (.inl l), some (.inl k), none, none, none] [.inl (X k)] (srl σ [(r_Md_row, X)]) _
        have hxk := hX k
        refine wp_if_ne rfl (by omega) (fun h_4 => ?_) (fun h_4 => ?_)
        · show en_wp k_X12_reduces 29 [some (.inr (.inr (r_Md, 0))), some (.inl q), some (.inl d), some (.inl l), some (.inl k), none, none, none] [] (srl σ [(r_Md_row, X)]) _
          refine wp_run 7 (pc' := 40) (ls' := [some (.inr (.inr (r_Md, 0))), some (.inl q), some (.inl d), some (.inl l), some (.inl k), none, none, none]) (st' := [.inl d, .inr (.inr (r_Md, 0)), .inl (400 * q), .inr (.inr (r_Md_leads, 0))]) (σ' := srl σ [(r_Md_row, X)]) rfl ?_
          refine wp_fnv (v := .inl (sS n D d)) rfl rfl rfl rfl (ct_X12_start (srl σ [(r_Md_row, X)]) n D p d hI (by omega)) ?_
          show en_wp k_X12_reduces 43 [some (.inr (.inr (r_Md, 0))), some (.inl q), some (.inl d), some (.inl l), some (.inl k), none, none, none] [.inl (sS n D d), .inl (400 * q), .inr (.inr (r_Md_leads, 0))] (srl σ [(r_Md_row, X)]) _
          have q_5 : 0 ≤ sS n D d ∧ sS n D d ≤ 364 := sS_b hO
          refine wp_run 3 (pc' := 47) (ls' := [some (.inr (.inr (r_Md, 0))), some (.inl q), some (.inl d), some (.inl l), some (.inl k), none, none, none]) (st' := [.inl (((400 * q) + (sS n D d)) + k), .inr (.inr (r_Md_leads, 0))]) (σ' := srl σ [(r_Md_row, X)]) rfl ?_
          have hw := sS_word hO hd.1 (show 0 ≤ k ∧ k < sW n D d by omega)
          refine wp_bald0 rfl (.inr rfl) (by omega) ?_
          show en_wp k_X12_reduces 48 [some (.inr (.inr (r_Md, 0))), some (.inl q), some (.inl d), some (.inl l), some (.inl k), none, none, none] [.inl (σ r_Md_leads (((400 * q) + (sS n D d)) + k))] (srl σ [(r_Md_row, X)]) _
          have hlk := hlead (400 * q + sS n D d + k)
          refine wp_if_ne rfl (by omega) (fun h_6 => ?_) (fun h_6 => ?_)
          · have hk1 : σ r_Md_leads (400 * q + sS n D d + k) = 1 := by omega
            show en_wp k_X12_reduces 61 [some (.inr (.inr (r_Md, 0))), some (.inl q), some (.inl d), some (.inl l), some (.inl k), none, none, none] [] (srl σ [(r_Md_row, X)]) _
            refine wp_run 3 (pc' := 67) (ls' := [some (.inr (.inr (r_Md, 0))), some (.inl q), some (.inl d), some (.inl l), some (.inl k), none, none, none]) (st' := [.inl k, .inr (.inr (r_Md_row, 0))]) (σ' := srl σ [(r_Md_row, X)]) rfl ?_
            refine wp_iald0 rfl rfl (by omega) ?_
            show en_wp k_X12_reduces 68 [some (.inr (.inr (r_Md, 0))), some (.inl q), some (.inl d), some (.inl l), some (.inl k), none, none, none] [.inl (X k)] (srl σ [(r_Md_row, X)]) _
            refine wp_run 5 (pc' := 75) (ls' := [some (.inr (.inr (r_Md, 0))), some (.inl q), some (.inl d), some (.inl l), some (.inl k), some (.inl (X k)), none, none]) (st' := [.inl k, .inl d, .inl q, .inr (.inr (r_Md, 0))]) (σ' := srl σ [(r_Md_row, X)]) rfl ?_
            refine wp_fnv (v := .inl (70000 * q + sQ n D d + k * sW n D d)) rfl rfl rfl rfl (ct_X12_rowAt (srl σ [(r_Md_row, X)]) n D p q d k hI (by omega) (by omega) hrs (by omega)) ?_
            show en_wp k_X12_reduces 78 [some (.inr (.inr (r_Md, 0))), some (.inl q), some (.inl d), some (.inl l), some (.inl k), some (.inl (X k)), none, none] [.inl (70000 * q + sQ n D d + k * sW n D d)] (srl σ [(r_Md_row, X)]) _
            refine wp_run 3 (pc' := 83) (ls' := [some (.inr (.inr (r_Md, 0))), some (.inl q), some (.inl d), some (.inl l), some (.inl k), some (.inl (X k)), some (.inl (70000 * q + sQ n D d + k * sW n D d)), some (.inl 0)]) (st' := []) (σ' := srl σ [(r_Md_row, X)]) rfl ?_
            exact L_83 _ 0 X (by omega) hk1 (by omega) (seg_0 _ _ _).symm (Nat.lt_succ_self _)
          · have hk0 : σ r_Md_leads (400 * q + sS n D d + k) = 0 := h_6
            show en_wp k_X12_reduces 51 [some (.inr (.inr (r_Md, 0))), some (.inl q), some (.inl d), some (.inl l), some (.inl k), none, none, none] [] (srl σ [(r_Md_row, X)]) _
            refine wp_run 1 (pc' := 52) (ls' := [some (.inr (.inr (r_Md, 0))), some (.inl q), some (.inl d), some (.inl l), some (.inl k), none, none, none]) (st' := [.inl l]) (σ' := srl σ [(r_Md_row, X)]) rfl ?_
            refine wp_if_ge rfl (by omega) (fun h_7 => ?_) (fun h_7 => ?_)
            · show en_wp k_X12_reduces 131 [some (.inr (.inr (r_Md, 0))), some (.inl q), some (.inl d), some (.inl l), some (.inl k), none, none, none] [] (srl σ [(r_Md_row, X)]) _
              refine wp_run 2 (pc' := 11) (ls' := [some (.inr (.inr (r_Md, 0))), some (.inl q), some (.inl d), some (.inl l), some (.inl (k + (-1))), none, none, none]) (st' := []) (σ' := srl σ [(r_Md_row, X)]) rfl ?_
              exact ih_11 (k + (-1)) l X (by omega) (by omega) (by first | exact rd_skip0 hrd (by omega) | exact rd_skip1 hrd hk0 (by omega) | exact rd_lead hrd (by omega) (by omega) (by omega) hk0 (by omega)) (by omega)
            · show en_wp k_X12_reduces 55 [some (.inr (.inr (r_Md, 0))), some (.inl q), some (.inl d), some (.inl l), some (.inl k), none, none, none] [] (srl σ [(r_Md_row, X)]) _
              refine wp_run 5 (pc' := 11) (ls' := [some (.inr (.inr (r_Md, 0))), some (.inl q), some (.inl d), some (.inl k), some (.inl (k + (-1))), none, none, none]) (st' := []) (σ' := srl σ [(r_Md_row, X)]) rfl ?_
              exact ih_11 (k + (-1)) k X (by omega) (by omega) (by first | exact rd_skip0 hrd (by omega) | exact rd_skip1 hrd hk0 (by omega) | exact rd_lead hrd (by omega) (by omega) (by omega) hk0 (by omega)) (by omega)
        · show en_wp k_X12_reduces 26 [some (.inr (.inr (r_Md, 0))), some (.inl q), some (.inl d), some (.inl l), some (.inl k), none, none, none] [] (srl σ [(r_Md_row, X)]) _
          refine wp_run 3 (pc' := 11) (ls' := [some (.inr (.inr (r_Md, 0))), some (.inl q), some (.inl d), some (.inl l), some (.inl (k + (-1))), none, none, none]) (st' := []) (σ' := srl σ [(r_Md_row, X)]) rfl ?_
          exact ih_11 (k + (-1)) l X (by omega) (by omega) (by first | exact rd_skip0 hrd (by omega) | exact rd_skip1 hrd hk0 (by omega) | exact rd_lead hrd (by omega) (by omega) (by omega) hk0 (by omega)) (by omega)
  refine wp_run 4 (pc' := 4) (ls' := [some (.inr (.inr (r_Md, 0))), some (.inl q), some (.inl d), some (.inl (-1)), none, none, none, none]) (st' := [.inl d, .inr (.inr (r_Md, 0))]) (σ' := srl σ []) rfl ?_
  refine wp_fnv (v := .inl (sW n D d)) rfl rfl rfl rfl (ct_X12_wide σ n D p d hI (by omega)) ?_
  show en_wp k_X12_reduces 7 [some (.inr (.inr (r_Md, 0))), some (.inl q), some (.inl d), some (.inl (-1)), none, none, none, none] [.inl (sW n D d)] (srl σ []) _
  have q_8 : 0 ≤ sW n D d ∧ sW n D d ≤ 256 := sW_b hO
  refine wp_run 3 (pc' := 11) (ls' := [some (.inr (.inr (r_Md, 0))), some (.inl q), some (.inl d), some (.inl (-1)), some (.inl ((sW n D d) - 1)), none, none, none]) (st' := []) (σ' := srl σ []) rfl ?_
  refine wp_mem (srl_eq (l' := [(r_Md_row, (σ r_Md_row))]) trivial (And.intro rfl trivial)) ?_
  exact L_11 _ ((sW n D d) - 1) (-1) (σ r_Md_row) (by omega) (by omega) (rd_start hrow hrp) (Nat.lt_succ_self _)
