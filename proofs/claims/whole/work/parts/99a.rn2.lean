/-! contracts of methods, walked (written by wip/whole/walk.py from the annotations ann_m31) -/
theorem ct_X4_takeEquation (σ : en_m) (n : Int) (D : Int) (p : Int) (hI : cS0 σ n D p) (hw : 0 ≤ (σ r_Ranks_wide) 0 ∧ (σ r_Ranks_wide) 0 ≤ 81) (he : ∀ j, -10000 ≤ (σ r_Ranks_equation) j ∧ (σ r_Ranks_equation) j ≤ 10000) (hkR : R97 ((σ r_Ranks_keptR))) (hIK : R01 ((σ r_Ranks_isKept))) (hkO : kOk ((σ r_Ranks_isKept)) ((σ r_Ranks_keptR)) ((σ r_Ranks_wide) 0)) (hr : 0 ≤ (σ r_Ranks_rank) 0 ∧ (σ r_Ranks_rank) 0 ≤ 81) : en_ct z_X4_takeEquation [.inr (.inr (r_Ranks, 0))] σ (fun r σ' => ∃ (f_Ranks_equation : Int → Int), ∃ (f_Ranks_keptR : Int → Int), ∃ (f_Ranks_isKept : Int → Int), ∃ (v_Ranks_rank : Int → Int), r = none ∧ σ' = srl σ [(r_Ranks_equation, f_Ranks_equation), (r_Ranks_keptR, f_Ranks_keptR), (r_Ranks_isKept, f_Ranks_isKept), (r_Ranks_rank, v_Ranks_rank)] ∧ (tqR p ((σ r_Ranks_isKept)) ((σ r_Ranks_keptR)) ((σ r_Ranks_equation)) ((σ r_Ranks_wide) 0) ((σ r_Ranks_rank) 0) f_Ranks_isKept f_Ranks_keptR (v_Ranks_rank 0)) ∧ (∀ j, -10000 ≤ f_Ranks_equation j ∧ f_Ranks_equation j ≤ 10000)) := by
  show en_wp k_X4_takeEquation 0 [some (.inr (.inr (r_Ranks, 0))), none, none, none] [] (srl σ []) (fun r σ' => ∃ (f_Ranks_equation : Int → Int), ∃ (f_Ranks_keptR : Int → Int), ∃ (f_Ranks_isKept : Int → Int), ∃ (v_Ranks_rank : Int → Int), r = none ∧ σ' = srl σ [(r_Ranks_equation, f_Ranks_equation), (r_Ranks_keptR, f_Ranks_keptR), (r_Ranks_isKept, f_Ranks_isKept), (r_Ranks_rank, v_Ranks_rank)] ∧ (tqR p ((σ r_Ranks_isKept)) ((σ r_Ranks_keptR)) ((σ r_Ranks_equation)) ((σ r_Ranks_wide) 0) ((σ r_Ranks_rank) 0) f_Ranks_isKept f_Ranks_keptR (v_Ranks_rank 0)) ∧ (∀ j, -10000 ≤ f_Ranks_equation j ∧ f_Ranks_equation j ≤ 10000))
  have hI2 := hI
  obtain ⟨hO, hn, hD, hp, hm, hst, hln⟩ := hI2
  obtain ⟨⟨hO1, hO2⟩, ⟨hO3, hO4⟩, hO5, hO6, hO7, hO8⟩ := id hO
  have L_2 : ∀ (N : Nat) (i : Int) (X : Int → Int), (0 ≤ i ∧ i ≤ σ r_Ranks_wide 0) → (tqI p (σ r_Ranks_isKept) (σ r_Ranks_keptR) (σ r_Ranks_equation) X (σ r_Ranks_wide 0) i) → (∀ j, -10000 ≤ X j ∧ X j ≤ 10000) → (σ r_Ranks_wide 0 - i).toNat < N → en_wp k_X4_takeEquation 2 [some (.inr (.inr (r_Ranks, 0))), some (.inl i), none, none] [] (srl σ [(r_Ranks_equation, X)]) (fun r σ' => ∃ (f_Ranks_equation : Int → Int), ∃ (f_Ranks_keptR : Int → Int), ∃ (f_Ranks_isKept : Int → Int), ∃ (v_Ranks_rank : Int → Int), r = none ∧ σ' = srl σ [(r_Ranks_equation, f_Ranks_equation), (r_Ranks_keptR, f_Ranks_keptR), (r_Ranks_isKept, f_Ranks_isKept), (r_Ranks_rank, v_Ranks_rank)] ∧ (tqR p ((σ r_Ranks_isKept)) ((σ r_Ranks_keptR)) ((σ r_Ranks_equation)) ((σ r_Ranks_wide) 0) ((σ r_Ranks_rank) 0) f_Ranks_isKept f_Ranks_keptR (v_Ranks_rank 0)) ∧ (∀ j, -10000 ≤ f_Ranks_equation j ∧ f_Ranks_equation j ≤ 10000)) := by
    intro N
    induction N with
    | zero => intro i X; intros; omega
    | succ N ih_2 =>
      intro i X hi hX hXb hN_2
      have L_53 : ∀ (N : Nat) (c : Int) (k : Int) (Y : Int → Int), (i < σ r_Ranks_wide 0) → (c = X i % p ∧ 0 ≤ c ∧ c < p) → (c = 0 ∨ σ r_Ranks_isKept i = 1) → (i ≤ k ∧ k ≤ σ r_Ranks_wide 0) → (∀ j, (i ≤ j ∧ j < k → Y j = (X j - c * σ r_Ranks_keptR (i * 81 + j)) % p) ∧ (¬ (i ≤ j ∧ j < k) → Y j = X j)) → (∀ j, -10000 ≤ Y j ∧ Y j ≤ 10000) → (σ r_Ranks_wide 0 - k).toNat < N → en_wp k_X4_takeEquation 53 [some (.inr (.inr (r_Ranks, 0))), some (.inl i), some (.inl c), some (.inl k)] [] (srl σ [(r_Ranks_equation, Y)]) (fun r σ' => ∃ (f_Ranks_equation : Int → Int), ∃ (f_Ranks_keptR : Int → Int), ∃ (f_Ranks_isKept : Int → Int), ∃ (v_Ranks_rank : Int → Int), r = none ∧ σ' = srl σ [(r_Ranks_equation, f_Ranks_equation), (r_Ranks_keptR, f_Ranks_keptR), (r_Ranks_isKept, f_Ranks_isKept), (r_Ranks_rank, v_Ranks_rank)] ∧ (tqR p ((σ r_Ranks_isKept)) ((σ r_Ranks_keptR)) ((σ r_Ranks_equation)) ((σ r_Ranks_wide) 0) ((σ r_Ranks_rank) 0) f_Ranks_isKept f_Ranks_keptR (v_Ranks_rank 0)) ∧ (∀ j, -10000 ≤ f_Ranks_equation j ∧ f_Ranks_equation j ≤ 10000)) := by
        intro N
        induction N with
        | zero => intro c k Y; intros; omega
        | succ N ih_53 =>
          intro c k Y hiw hc hkc hk hY hYb hN_53
          refine wp_run 3 (pc' := 58) (ls' := [some (.inr (.inr (r_Ranks, 0))), some (.inl i), some (.inl c), some (.inl k)]) (st' := [.inl (σ r_Ranks_wide 0), .inl k]) (σ' := srl σ [(r_Ranks_equation, Y)]) rfl ?_
          refine wp_ic_ge rfl (by omega) (by omega) (fun h_1 => ?_) (fun h_1 => ?_)
          · show en_wp k_X4_takeEquation 101 [some (.inr (.inr (r_Ranks, 0))), some (.inl i), some (.inl c), some (.inl k)] [] (srl σ [(r_Ranks_equation, Y)]) _
            refine wp_run 2 (pc' := 2) (ls' := [some (.inr (.inr (r_Ranks, 0))), some (.inl (i + 1)), some (.inl c), some (.inl k)]) (st' := []) (σ' := srl σ [(r_Ranks_equation, Y)]) rfl ?_
            refine wp_sub (l := [some (.inr (.inr (r_Ranks, 0))), some (.inl (i + 1)), none, none]) (And.intro rfl (And.intro rfl trivial)) ?_
            exact ih_2 (i + 1) Y (by omega) (tq_s ⟨hi.1, hiw⟩ hc.1 hkc hkO hX (fun j a b => by have hYj := hY j; by_cases g : j < i; rw [if_pos g]; exact mE_of (hYj.2 (by omega)); rw [if_neg g]; by_cases g2 : j < k; rw [hYj.1 (by omega)]; exact mE_emod p _; rw [hYj.2 (by omega), show c = 0 by omega, Int.zero_mul, Int.sub_zero]; exact mE_rfl p _)) hYb (by omega)
          · show en_wp k_X4_takeEquation 61 [some (.inr (.inr (r_Ranks, 0))), some (.inl i), some (.inl c), some (.inl k)] [] (srl σ [(r_Ranks_equation, Y)]) _
            refine wp_run 1 (pc' := 62) (ls' := [some (.inr (.inr (r_Ranks, 0))), some (.inl i), some (.inl c), some (.inl k)]) (st' := [.inl c]) (σ' := srl σ [(r_Ranks_equation, Y)]) rfl ?_
            refine wp_if_eq rfl (by omega) (fun h_2 => ?_) (fun h_2 => ?_)
            · show en_wp k_X4_takeEquation 101 [some (.inr (.inr (r_Ranks, 0))), some (.inl i), some (.inl c), some (.inl k)] [] (srl σ [(r_Ranks_equation, Y)]) _
              refine wp_run 2 (pc' := 2) (ls' := [some (.inr (.inr (r_Ranks, 0))), some (.inl (i + 1)), some (.inl c), some (.inl k)]) (st' := []) (σ' := srl σ [(r_Ranks_equation, Y)]) rfl ?_
              refine wp_sub (l := [some (.inr (.inr (r_Ranks, 0))), some (.inl (i + 1)), none, none]) (And.intro rfl (And.intro rfl trivial)) ?_
              exact ih_2 (i + 1) Y (by omega) (tq_s ⟨hi.1, hiw⟩ hc.1 hkc hkO hX (fun j a b => by have hYj := hY j; by_cases g : j < i; rw [if_pos g]; exact mE_of (hYj.2 (by omega)); rw [if_neg g]; by_cases g2 : j < k; rw [hYj.1 (by omega)]; exact mE_emod p _; rw [hYj.2 (by omega), show c = 0 by omega, Int.zero_mul, Int.sub_zero]; exact mE_rfl p _)) hYb (by omega)
            · show en_wp k_X4_takeEquation 65 [some (.inr (.inr (r_Ranks, 0))), some (.inl i), some (.inl c), some (.inl k)] [] (srl σ [(r_Ranks_equation, Y)]) _
              refine wp_run 8 (pc' := 79) (ls' := [some (.inr (.inr (r_Ranks, 0))), some (.inl i), some (.inl c), some (.inl k)]) (st' := [.inl k, .inr (.inr (r_Ranks_equation, 0)), .inr (.inr (r_Shape0, 0)), .inl k, .inr (.inr (r_Ranks_equation, 0))]) (σ' := srl σ [(r_Ranks_equation, Y)]) rfl ?_
              refine wp_iald0 rfl rfl (by omega) ?_
              show en_wp k_X4_takeEquation 80 [some (.inr (.inr (r_Ranks, 0))), some (.inl i), some (.inl c), some (.inl k)] [.inl (Y k), .inr (.inr (r_Shape0, 0)), .inl k, .inr (.inr (r_Ranks_equation, 0))] (srl σ [(r_Ranks_equation, Y)]) _
              refine wp_run 4 (pc' := 86) (ls' := [some (.inr (.inr (r_Ranks, 0))), some (.inl i), some (.inl c), some (.inl k)]) (st' := [.inl i, .inr (.inr (r_Ranks_kept, 0)), .inl c, .inl (Y k), .inr (.inr (r_Shape0, 0)), .inl k, .inr (.inr (r_Ranks_equation, 0))]) (σ' := srl σ [(r_Ranks_equation, Y)]) rfl ?_
              refine wp_aald (m := 81) rfl rfl rfl (by omega) ?_
              show en_wp k_X4_takeEquation 87 [some (.inr (.inr (r_Ranks, 0))), some (.inl i), some (.inl c), some (.inl k)] [.inr (.inr (r_Ranks_keptR, (i * 81))), .inl c, .inl (Y k), .inr (.inr (r_Shape0, 0)), .inl k, .inr (.inr (r_Ranks_equation, 0))] (srl σ [(r_Ranks_equation, Y)]) _
              refine wp_run 1 (pc' := 88) (ls' := [some (.inr (.inr (r_Ranks, 0))), some (.inl i), some (.inl c), some (.inl k)]) (st' := [.inl k, .inr (.inr (r_Ranks_keptR, (i * 81))), .inl c, .inl (Y k), .inr (.inr (r_Shape0, 0)), .inl k, .inr (.inr (r_Ranks_equation, 0))]) (σ' := srl σ [(r_Ranks_equation, Y)]) rfl ?_
              refine wp_iald rfl rfl (by omega) ?_
              show en_wp k_X4_takeEquation 89 [some (.inr (.inr (r_Ranks, 0))), some (.inl i), some (.inl c), some (.inl k)] [.inl (σ r_Ranks_keptR ((i * 81) + k)), .inl c, .inl (Y k), .inr (.inr (r_Shape0, 0)), .inl k, .inr (.inr (r_Ranks_equation, 0))] (srl σ [(r_Ranks_equation, Y)]) _
              refine wp_run 2 (pc' := 91) (ls' := [some (.inr (.inr (r_Ranks, 0))), some (.inl i), some (.inl c), some (.inl k)]) (st' := [.inl ((Y k) - (c * (σ r_Ranks_keptR ((i * 81) + k)))), .inr (.inr (r_Shape0, 0)), .inl k, .inr (.inr (r_Ranks_equation, 0))]) (σ' := srl σ [(r_Ranks_equation, Y)]) rfl ?_
              have hyb := hYb k
              have hkb := hkR (i * 81 + k)
              have hm0 := Int.mul_nonneg hc.2.1 hkb.1
              have hm3 : c * σ r_Ranks_keptR (i * 81 + k) ≤ 9409 := Int.mul_le_mul (show c ≤ 97 by omega) (show σ r_Ranks_keptR (i * 81 + k) ≤ 97 by omega) hkb.1 (by decide)
              have hm4 := Int.emod_nonneg (Y k - c * σ r_Ranks_keptR (i * 81 + k)) (show p ≠ 0 by omega)
              have hm5 := Int.emod_lt_of_pos (Y k - c * σ r_Ranks_keptR (i * 81 + k)) (show 0 < p by omega)
              refine wp_fnv (v := .inl (((Y k) - (c * (σ r_Ranks_keptR ((i * 81) + k)))) % p)) rfl rfl rfl rfl (ct_X5_rest_Shape0 (srl σ [(r_Ranks_equation, Y)]) n D p ((Y k) - (c * (σ r_Ranks_keptR ((i * 81) + k)))) hI (by omega)) ?_
              show en_wp k_X4_takeEquation 94 [some (.inr (.inr (r_Ranks, 0))), some (.inl i), some (.inl c), some (.inl k)] [.inl (((Y k) - (c * (σ r_Ranks_keptR ((i * 81) + k)))) % p), .inl k, .inr (.inr (r_Ranks_equation, 0))] (srl σ [(r_Ranks_equation, Y)]) _
              have q_3 : 0 ≤ ((Y k) - (c * (σ r_Ranks_keptR ((i * 81) + k)))) % p ∧ ((Y k) - (c * (σ r_Ranks_keptR ((i * 81) + k)))) % p < p := sR_lt hO.2.2.2
              refine wp_iast0 rfl rfl (by omega) (wp_wr (l2 := [(r_Ranks_equation, (up Y k (((Y k) - (c * (σ r_Ranks_keptR ((i * 81) + k)))) % p)))]) rfl ?_)
              show en_wp k_X4_takeEquation 95 [some (.inr (.inr (r_Ranks, 0))), some (.inl i), some (.inl c), some (.inl k)] [] (srl σ [(r_Ranks_equation, (up Y k (((Y k) - (c * (σ r_Ranks_keptR ((i * 81) + k)))) % p)))]) _
              refine wp_run 2 (pc' := 53) (ls' := [some (.inr (.inr (r_Ranks, 0))), some (.inl i), some (.inl c), some (.inl (k + 1))]) (st' := []) (σ' := srl σ [(r_Ranks_equation, (up Y k (((Y k) - (c * (σ r_Ranks_keptR ((i * 81) + k)))) % p)))]) rfl ?_
              exact ih_53 c (k + 1) (up Y k (((Y k) - (c * (σ r_Ranks_keptR ((i * 81) + k)))) % p)) (by omega) hc hkc (by omega) (fun j => by have hYj := hY j; have hYk := hY k; by_cases g : j = k; subst g; exact ⟨fun _ => by rw [up_eq, hYk.2 (by omega)], fun q => absurd ⟨hk.1, by omega⟩ q⟩; exact ⟨fun q => by rw [up_ne g]; exact hYj.1 (by omega), fun q => by rw [up_ne g]; exact hYj.2 (by omega)⟩) (fun j => by by_cases g : j = k; rw [g, up_eq]; omega; rw [up_ne g]; exact hYb j) (by omega)
      refine wp_run 3 (pc' := 7) (ls' := [some (.inr (.inr (r_Ranks, 0))), some (.inl i), none, none]) (st' := [.inl (σ r_Ranks_wide 0), .inl i]) (σ' := srl σ [(r_Ranks_equation, X)]) rfl ?_
      refine wp_ic_ge rfl (by omega) (by omega) (fun h_4 => ?_) (fun h_4 => ?_)
      · show en_wp k_X4_takeEquation 107 [some (.inr (.inr (r_Ranks, 0))), some (.inl i), none, none] [] (srl σ [(r_Ranks_equation, X)]) _
        exact wp_vret rfl ⟨X, (σ r_Ranks_keptR), (σ r_Ranks_isKept), (σ r_Ranks_rank), rfl, srl_eq (l' := [(r_Ranks_equation, X), (r_Ranks_keptR, σ r_Ranks_keptR), (r_Ranks_isKept, σ r_Ranks_isKept), (r_Ranks_rank, σ r_Ranks_rank)]) (And.intro rfl trivial) (And.intro rfl (And.intro rfl (And.intro rfl (And.intro rfl trivial)))), ⟨(Or.inl ⟨rfl, rfl, rfl, tq_e (by omega) hX⟩), hXb⟩⟩
      · show en_wp k_X4_takeEquation 10 [some (.inr (.inr (r_Ranks, 0))), some (.inl i), none, none] [] (srl σ [(r_Ranks_equation, X)]) _
        refine wp_run 5 (pc' := 19) (ls' := [some (.inr (.inr (r_Ranks, 0))), some (.inl i), none, none]) (st' := [.inl i, .inr (.inr (r_Ranks_equation, 0)), .inr (.inr (r_Shape0, 0))]) (σ' := srl σ [(r_Ranks_equation, X)]) rfl ?_
        refine wp_iald0 rfl rfl (by omega) ?_
        show en_wp k_X4_takeEquation 20 [some (.inr (.inr (r_Ranks, 0))), some (.inl i), none, none] [.inl (X i), .inr (.inr (r_Shape0, 0))] (srl σ [(r_Ranks_equation, X)]) _
        have hxb := hXb i
        refine wp_fnv (v := .inl ((X i) % p)) rfl rfl rfl rfl (ct_X5_rest_Shape0 (srl σ [(r_Ranks_equation, X)]) n D p (X i) hI (by omega)) ?_
        show en_wp k_X4_takeEquation 23 [some (.inr (.inr (r_Ranks, 0))), some (.inl i), none, none] [.inl ((X i) % p)] (srl σ [(r_Ranks_equation, X)]) _
        have q_5 : 0 ≤ (X i) % p ∧ (X i) % p < p := sR_lt hO.2.2.2
        refine wp_run 2 (pc' := 25) (ls' := [some (.inr (.inr (r_Ranks, 0))), some (.inl i), some (.inl ((X i) % p)), none]) (st' := [.inl ((X i) % p)]) (σ' := srl σ [(r_Ranks_equation, X)]) rfl ?_
        refine wp_if_eq rfl (by omega) (fun h_6 => ?_) (fun h_6 => ?_)
        · show en_wp k_X4_takeEquation 51 [some (.inr (.inr (r_Ranks, 0))), some (.inl i), some (.inl ((X i) % p)), none] [] (srl σ [(r_Ranks_equation, X)]) _
          refine wp_run 2 (pc' := 53) (ls' := [some (.inr (.inr (r_Ranks, 0))), some (.inl i), some (.inl ((X i) % p)), some (.inl i)]) (st' := []) (σ' := srl σ [(r_Ranks_equation, X)]) rfl ?_
          exact L_53 _ ((X i) % p) i X (by omega) ⟨rfl, Int.emod_nonneg _ (by omega), Int.emod_lt_of_pos _ (by omega)⟩ (.inl (by assumption)) (by omega) (fun j => ⟨fun h => by omega, fun _ => rfl⟩) hXb (Nat.lt_succ_self _)
        · show en_wp k_X4_takeEquation 28 [some (.inr (.inr (r_Ranks, 0))), some (.inl i), some (.inl ((X i) % p)), none] [] (srl σ [(r_Ranks_equation, X)]) _
          refine wp_run 3 (pc' := 33) (ls' := [some (.inr (.inr (r_Ranks, 0))), some (.inl i), some (.inl ((X i) % p)), none]) (st' := [.inl i, .inr (.inr (r_Ranks_isKept, 0))]) (σ' := srl σ [(r_Ranks_equation, X)]) rfl ?_
          refine wp_bald0 rfl (.inl rfl) (by omega) ?_
          show en_wp k_X4_takeEquation 34 [some (.inr (.inr (r_Ranks, 0))), some (.inl i), some (.inl ((X i) % p)), none] [.inl (σ r_Ranks_isKept i)] (srl σ [(r_Ranks_equation, X)]) _
          have hik := hIK i
          refine wp_if_ne rfl (by omega) (fun h_7 => ?_) (fun h_7 => ?_)
          · show en_wp k_X4_takeEquation 51 [some (.inr (.inr (r_Ranks, 0))), some (.inl i), some (.inl ((X i) % p)), none] [] (srl σ [(r_Ranks_equation, X)]) _
            refine wp_run 2 (pc' := 53) (ls' := [some (.inr (.inr (r_Ranks, 0))), some (.inl i), some (.inl ((X i) % p)), some (.inl i)]) (st' := []) (σ' := srl σ [(r_Ranks_equation, X)]) rfl ?_
            exact L_53 _ ((X i) % p) i X (by omega) ⟨rfl, Int.emod_nonneg _ (by omega), Int.emod_lt_of_pos _ (by omega)⟩ (.inr (by have hik := hIK i; omega)) (by omega) (fun j => ⟨fun h => by omega, fun _ => rfl⟩) hXb (Nat.lt_succ_self _)
          · show en_wp k_X4_takeEquation 37 [some (.inr (.inr (r_Ranks, 0))), some (.inl i), some (.inl ((X i) % p)), none] [] (srl σ [(r_Ranks_equation, X)]) _
            refine wp_run 5 (pc' := 44) (ls' := [some (.inr (.inr (r_Ranks, 0))), some (.inl i), some (.inl ((X i) % p)), none]) (st' := [.inl ((X i) % p), .inr (.inr (r_Shape0, 0)), .inl i, .inr (.inr (r_Ranks, 0))]) (σ' := srl σ [(r_Ranks_equation, X)]) rfl ?_
            have hm1 := Int.emod_nonneg (X i) (show p ≠ 0 by omega)
            have hm2 := Int.emod_lt_of_pos (X i) (show 0 < p by omega)
            refine wp_callv rfl rfl rfl rfl (ct_X5_inverseOf_Shape0 (srl σ [(r_Ranks_equation, X)]) n D p ((X i) % p) hI (by omega)) ?_
            rintro _ _ ⟨r_8, rfl, rfl, p_9⟩
            have p_9 : 1 ≤ r_8 ∧ r_8 < p ∧ (r_8 * ((X i) % p)) % p = 1 := p_9
            show en_wp k_X4_takeEquation 47 [some (.inr (.inr (r_Ranks, 0))), some (.inl i), some (.inl ((X i) % p)), none] [.inl r_8, .inl i, .inr (.inr (r_Ranks, 0))] (srl σ [(r_Ranks_equation, X)]) _
            have hiv := p_9
            refine wp_callv rfl rfl rfl rfl (ct_X4_keepEquation (srl σ [(r_Ranks_equation, X)]) n D p i r_8 hI hw hXb ⟨hi.1, by show i < σ r_Ranks_wide 0; omega⟩ (by omega) hr) ?_
            rintro _ _ ⟨f_10, f_11, v_12, rfl, rfl, p_13, p_14, p_15⟩
            have p_13 : ∀ k, 0 ≤ k → k < (σ r_Ranks_wide) 0 → f_10 (i * 81 + k) = if k < i then 0 else (X k * r_8) % p := p_13
            have p_14 : ∀ x, (x < i * 81 ∨ i * 81 + (σ r_Ranks_wide) 0 ≤ x) → f_10 x = (σ r_Ranks_keptR) x := p_14
            have p_15 : f_11 = up ((σ r_Ranks_isKept)) i 1 ∧ (v_12 0) = (σ r_Ranks_rank) 0 + 1 := p_15
            refine wp_bk (l2 := [(r_Ranks_equation, X), (r_Ranks_keptR, f_10), (r_Ranks_isKept, f_11), (r_Ranks_rank, v_12)]) rfl rfl ?_
            show en_wp k_X4_takeEquation 50 [some (.inr (.inr (r_Ranks, 0))), some (.inl i), some (.inl ((X i) % p)), none] [] (srl σ [(r_Ranks_equation, X), (r_Ranks_keptR, f_10), (r_Ranks_isKept, f_11), (r_Ranks_rank, v_12)]) _
            have kk := (⟨p_13, p_14, p_15⟩ : _ ∧ _ ∧ _)
            exact wp_vret rfl ⟨X, f_10, f_11, v_12, rfl, srl_eq (l' := [(r_Ranks_equation, X), (r_Ranks_keptR, f_10), (r_Ranks_isKept, f_11), (r_Ranks_rank, v_12)]) (And.intro rfl (And.intro rfl (And.intro rfl (And.intro rfl trivial)))) (And.intro rfl (And.intro rfl (And.intro rfl (And.intro rfl trivial)))), ⟨(Or.inr ⟨i, X i % p, by omega, by omega, by have hik := hIK i; omega, kk.2.2.1, kk.2.2.2, kk.2.1, by rw [kk.1 i hi.1 (by omega), if_neg (by omega)]; rw [Int.mul_comm]; exact (mE_mod (mE_mul (mE_rfl p _) (mE_symm (mE_emod p (X i))))).trans hiv.2.2, fun j a b => by rw [kk.1 j a (by omega), if_pos b], fun j a b => by rw [kk.1 j a b]; split; omega; exact ⟨Int.emod_nonneg _ (by omega), Int.emod_lt_of_pos _ (by omega)⟩, tq_k ⟨hi.1, by omega⟩ rfl (mE_ofmod (by rw [hiv.2.2, Int.emod_eq_of_lt (by decide) (by omega)])) hX kk.1⟩), hXb⟩⟩
  refine wp_run 2 (pc' := 2) (ls' := [some (.inr (.inr (r_Ranks, 0))), some (.inl 0), none, none]) (st' := []) (σ' := srl σ []) rfl ?_
  refine wp_mem (srl_eq (l' := [(r_Ranks_equation, (σ r_Ranks_equation))]) trivial (And.intro rfl trivial)) ?_
  exact L_2 _ 0 (σ r_Ranks_equation) (by omega) (tq_0 _ _ _ _ _) he (Nat.lt_succ_self _)
