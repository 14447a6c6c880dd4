/-! contracts of methods, walked (written by wip/whole/walk.py from the annotations ann_m30) -/
theorem ct_X4_keepEquation (σ : en_m) (n : Int) (D : Int) (p : Int) (i : Int) (s : Int) (hI : cS0 σ n D p) (hw : 0 ≤ (σ r_Ranks_wide) 0 ∧ (σ r_Ranks_wide) 0 ≤ 81) (he : ∀ j, -10000 ≤ (σ r_Ranks_equation) j ∧ (σ r_Ranks_equation) j ≤ 10000) (hi : 0 ≤ i ∧ i < (σ r_Ranks_wide) 0) (hs : 0 ≤ s ∧ s ≤ 97) (hr : 0 ≤ (σ r_Ranks_rank) 0 ∧ (σ r_Ranks_rank) 0 ≤ 81) : en_ct z_X4_keepEquation [.inr (.inr (r_Ranks, 0)), .inl i, .inl s] σ (fun r σ' => ∃ (f_Ranks_keptR : Int → Int), ∃ (f_Ranks_isKept : Int → Int), ∃ (v_Ranks_rank : Int → Int), r = none ∧ σ' = srl σ [(r_Ranks_keptR, f_Ranks_keptR), (r_Ranks_isKept, f_Ranks_isKept), (r_Ranks_rank, v_Ranks_rank)] ∧ (∀ k, 0 ≤ k → k < (σ r_Ranks_wide) 0 → f_Ranks_keptR (i * 81 + k) = if k < i then 0 else ((σ r_Ranks_equation) k * s) % p) ∧ (∀ x, (x < i * 81 ∨ i * 81 + 81 ≤ x) → f_Ranks_keptR x = (σ r_Ranks_keptR) x) ∧ (f_Ranks_isKept = up ((σ r_Ranks_isKept)) i 1 ∧ (v_Ranks_rank 0) = (σ r_Ranks_rank) 0 + 1)) := by
  show en_wp k_X4_keepEquation 0 [some (.inr (.inr (r_Ranks, 0))), some (.inl i), some (.inl s), none] [] (srl σ []) (fun r σ' => ∃ (f_Ranks_keptR : Int → Int), ∃ (f_Ranks_isKept : Int → Int), ∃ (v_Ranks_rank : Int → Int), r = none ∧ σ' = srl σ [(r_Ranks_keptR, f_Ranks_keptR), (r_Ranks_isKept, f_Ranks_isKept), (r_Ranks_rank, v_Ranks_rank)] ∧ (∀ k, 0 ≤ k → k < (σ r_Ranks_wide) 0 → f_Ranks_keptR (i * 81 + k) = if k < i then 0 else ((σ r_Ranks_equation) k * s) % p) ∧ (∀ x, (x < i * 81 ∨ i * 81 + 81 ≤ x) → f_Ranks_keptR x = (σ r_Ranks_keptR) x) ∧ (f_Ranks_isKept = up ((σ r_Ranks_isKept)) i 1 ∧ (v_Ranks_rank 0) = (σ r_Ranks_rank) 0 + 1))
  have hI2 := hI
  obtain ⟨hO, hn, hD, hp, hm, hst, hln⟩ := hI2
  obtain ⟨⟨hO1, hO2⟩, ⟨hO3, hO4⟩, hO5, hO6, hO7, hO8⟩ := id hO
  have L_2 : ∀ (N : Nat) (k : Int) (X : Int → Int), (0 ≤ k ∧ k ≤ σ r_Ranks_wide 0) → (∀ j, 0 ≤ j → j < k → X (i * 81 + j) = if j < i then 0 else (σ r_Ranks_equation j * s) % p) → (∀ x, (x < i * 81 ∨ i * 81 + 81 ≤ x) → X x = σ r_Ranks_keptR x) → (σ r_Ranks_wide 0 - k).toNat < N → en_wp k_X4_keepEquation 2 [some (.inr (.inr (r_Ranks, 0))), some (.inl i), some (.inl s), some (.inl k)] [] (srl σ [(r_Ranks_keptR, X)]) (fun r σ' => ∃ (f_Ranks_keptR : Int → Int), ∃ (f_Ranks_isKept : Int → Int), ∃ (v_Ranks_rank : Int → Int), r = none ∧ σ' = srl σ [(r_Ranks_keptR, f_Ranks_keptR), (r_Ranks_isKept, f_Ranks_isKept), (r_Ranks_rank, v_Ranks_rank)] ∧ (∀ k, 0 ≤ k → k < (σ r_Ranks_wide) 0 → f_Ranks_keptR (i * 81 + k) = if k < i then 0 else ((σ r_Ranks_equation) k * s) % p) ∧ (∀ x, (x < i * 81 ∨ i * 81 + 81 ≤ x) → f_Ranks_keptR x = (σ r_Ranks_keptR) x) ∧ (f_Ranks_isKept = up ((σ r_Ranks_isKept)) i 1 ∧ (v_Ranks_rank 0) = (σ r_Ranks_rank) 0 + 1)) := by
    intro N
    induction N with
    | zero => intro k X; intros; omega
    | succ N ih_2 =>
      intro k X hk hX1 hX2 hN_2
      refine wp_run 3 (pc' := 7) (ls' := [some (.inr (.inr (r_Ranks, 0))), some (.inl i), some (.inl s), some (.inl k)]) (st' := [.inl (σ r_Ranks_wide 0), .inl k]) (σ' := srl σ [(r_Ranks_keptR, X)]) rfl ?_
      refine wp_ic_ge rfl (by omega) (by omega) (fun h_1 => ?_) (fun h_1 => ?_)
      · show en_wp k_X4_keepEquation 48 [some (.inr (.inr (r_Ranks, 0))), some (.inl i), some (.inl s), some (.inl k)] [] (srl σ [(r_Ranks_keptR, X)]) _
        refine wp_run 4 (pc' := 54) (ls' := [some (.inr (.inr (r_Ranks, 0))), some (.inl i), some (.inl s), some (.inl k)]) (st' := [.inl 1, .inl i, .inr (.inr (r_Ranks_isKept, 0))]) (σ' := srl σ [(r_Ranks_keptR, X)]) rfl ?_
        refine wp_bast0 rfl rfl (by omega) (by omega) (wp_wr (l2 := [(r_Ranks_keptR, X), (r_Ranks_isKept, (up (σ r_Ranks_isKept) i 1))]) rfl ?_)
        show en_wp k_X4_keepEquation 55 [some (.inr (.inr (r_Ranks, 0))), some (.inl i), some (.inl s), some (.inl k)] [] (srl σ [(r_Ranks_keptR, X), (r_Ranks_isKept, (up (σ r_Ranks_isKept) i 1))]) _
        refine wp_run 5 (pc' := 62) (ls' := [some (.inr (.inr (r_Ranks, 0))), some (.inl i), some (.inl s), some (.inl k)]) (st' := [.inl ((σ r_Ranks_rank 0) + 1), .inr (.inr (r_Ranks, 0))]) (σ' := srl σ [(r_Ranks_keptR, X), (r_Ranks_isKept, (up (σ r_Ranks_isKept) i 1))]) rfl ?_
        refine wp_st (x := (65, [some (.inr (.inr (r_Ranks, 0))), some (.inl i), some (.inl s), some (.inl k)], [], sr (srl σ [(r_Ranks_keptR, X), (r_Ranks_isKept, (up (σ r_Ranks_isKept) i 1))]) r_Ranks_rank (fun _ => ((σ r_Ranks_rank 0) + 1)))) rfl rfl (wp_wr (l2 := [(r_Ranks_keptR, X), (r_Ranks_isKept, (up (σ r_Ranks_isKept) i 1)), (r_Ranks_rank, (fun _ => ((σ r_Ranks_rank 0) + 1)))]) rfl ?_)
        show en_wp k_X4_keepEquation 65 [some (.inr (.inr (r_Ranks, 0))), some (.inl i), some (.inl s), some (.inl k)] [] (srl σ [(r_Ranks_keptR, X), (r_Ranks_isKept, (up (σ r_Ranks_isKept) i 1)), (r_Ranks_rank, (fun _ => ((σ r_Ranks_rank 0) + 1)))]) _
        exact wp_vret rfl ⟨X, (up (σ r_Ranks_isKept) i 1), (fun _ => ((σ r_Ranks_rank 0) + 1)), rfl, srl_eq (l' := [(r_Ranks_keptR, X), (r_Ranks_isKept, (up (σ r_Ranks_isKept) i 1)), (r_Ranks_rank, (fun _ => ((σ r_Ranks_rank 0) + 1)))]) (And.intro rfl (And.intro rfl (And.intro rfl trivial))) (And.intro rfl (And.intro rfl (And.intro rfl trivial))), ⟨fun j a b => hX1 j a (by omega), hX2, rfl, rfl⟩⟩
      · show en_wp k_X4_keepEquation 10 [some (.inr (.inr (r_Ranks, 0))), some (.inl i), some (.inl s), some (.inl k)] [] (srl σ [(r_Ranks_keptR, X)]) _
        refine wp_run 3 (pc' := 15) (ls' := [some (.inr (.inr (r_Ranks, 0))), some (.inl i), some (.inl s), some (.inl k)]) (st' := [.inl i, .inr (.inr (r_Ranks_kept, 0))]) (σ' := srl σ [(r_Ranks_keptR, X)]) rfl ?_
        refine wp_aald (m := 81) rfl rfl rfl (by omega) ?_
        show en_wp k_X4_keepEquation 16 [some (.inr (.inr (r_Ranks, 0))), some (.inl i), some (.inl s), some (.inl k)] [.inr (.inr (r_Ranks_keptR, (i * 81)))] (srl σ [(r_Ranks_keptR, X)]) _
        refine wp_run 3 (pc' := 19) (ls' := [some (.inr (.inr (r_Ranks, 0))), some (.inl i), some (.inl s), some (.inl k)]) (st' := [.inl i, .inl k, .inl k, .inr (.inr (r_Ranks_keptR, (i * 81)))]) (σ' := srl σ [(r_Ranks_keptR, X)]) rfl ?_
        refine wp_ic_ge rfl (by omega) (by omega) (fun h_2 => ?_) (fun h_2 => ?_)
        · show en_wp k_X4_keepEquation 26 [some (.inr (.inr (r_Ranks, 0))), some (.inl i), some (.inl s), some (.inl k)] [.inl k, .inr (.inr (r_Ranks_keptR, (i * 81)))] (srl σ [(r_Ranks_keptR, X)]) _
          refine wp_run 5 (pc' := 35) (ls' := [some (.inr (.inr (r_Ranks, 0))), some (.inl i), some (.inl s), some (.inl k)]) (st' := [.inl k, .inr (.inr (r_Ranks_equation, 0)), .inr (.inr (r_Shape0, 0)), .inl k, .inr (.inr (r_Ranks_keptR, (i * 81)))]) (σ' := srl σ [(r_Ranks_keptR, X)]) rfl ?_
          refine wp_iald0 rfl rfl (by omega) ?_
          show en_wp k_X4_keepEquation 36 [some (.inr (.inr (r_Ranks, 0))), some (.inl i), some (.inl s), some (.inl k)] [.inl (σ r_Ranks_equation k), .inr (.inr (r_Shape0, 0)), .inl k, .inr (.inr (r_Ranks_keptR, (i * 81)))] (srl σ [(r_Ranks_keptR, X)]) _
          refine wp_run 2 (pc' := 38) (ls' := [some (.inr (.inr (r_Ranks, 0))), some (.inl i), some (.inl s), some (.inl k)]) (st' := [.inl ((σ r_Ranks_equation k) * s), .inr (.inr (r_Shape0, 0)), .inl k, .inr (.inr (r_Ranks_keptR, (i * 81)))]) (σ' := srl σ [(r_Ranks_keptR, X)]) rfl ?_
          have hek := he k
          have hm1 : -(970000) ≤ σ r_Ranks_equation k * s ∧ σ r_Ranks_equation k * s ≤ 970000 := by
            have h1 : σ r_Ranks_equation k * s ≤ 10000 * s := Int.mul_le_mul_of_nonneg_right hek.2 hs.1
            have h2 : -10000 * s ≤ σ r_Ranks_equation k * s := Int.mul_le_mul_of_nonneg_right hek.1 hs.1
            omega
          refine wp_fnv (v := .inl (((σ r_Ranks_equation k) * s) % p)) rfl rfl rfl rfl (ct_X5_rest_Shape0 (srl σ [(r_Ranks_keptR, X)]) n D p ((σ r_Ranks_equation k) * s) hI (by omega)) ?_
          show en_wp k_X4_keepEquation 41 [some (.inr (.inr (r_Ranks, 0))), some (.inl i), some (.inl s), some (.inl k)] [.inl (((σ r_Ranks_equation k) * s) % p), .inl k, .inr (.inr (r_Ranks_keptR, (i * 81)))] (srl σ [(r_Ranks_keptR, X)]) _
          have q_3 : 0 ≤ ((σ r_Ranks_equation k) * s) % p ∧ ((σ r_Ranks_equation k) * s) % p < p := sR_lt hO.2.2.2
          refine wp_iast rfl rfl (by omega) (wp_wr (l2 := [(r_Ranks_keptR, (up X ((i * 81) + k) (((σ r_Ranks_equation k) * s) % p)))]) rfl ?_)
          show en_wp k_X4_keepEquation 42 [some (.inr (.inr (r_Ranks, 0))), some (.inl i), some (.inl s), some (.inl k)] [] (srl σ [(r_Ranks_keptR, (up X ((i * 81) + k) (((σ r_Ranks_equation k) * s) % p)))]) _
          refine wp_run 2 (pc' := 2) (ls' := [some (.inr (.inr (r_Ranks, 0))), some (.inl i), some (.inl s), some (.inl (k + 1))]) (st' := []) (σ' := srl σ [(r_Ranks_keptR, (up X ((i * 81) + k) (((σ r_Ranks_equation k) * s) % p)))]) rfl ?_
          exact ih_2 (k + 1) (up X ((i * 81) + k) (((σ r_Ranks_equation k) * s) % p)) (by omega) (fun j a b => by rcases Int.lt_or_eq_of_le (show j ≤ k by omega) with h5 | h5 <;> first | (rw [up_ne (by omega)]; exact hX1 j a h5) | (subst h5; rw [up_eq]; first | rw [if_pos (by omega)] | rw [if_neg (by omega)])) (fun x h => by rw [up_ne (by omega)]; exact hX2 x h) (by omega)
        · show en_wp k_X4_keepEquation 22 [some (.inr (.inr (r_Ranks, 0))), some (.inl i), some (.inl s), some (.inl k)] [.inl k, .inr (.inr (r_Ranks_keptR, (i * 81)))] (srl σ [(r_Ranks_keptR, X)]) _
          refine wp_run 2 (pc' := 41) (ls' := [some (.inr (.inr (r_Ranks, 0))), some (.inl i), some (.inl s), some (.inl k)]) (st' := [.inl 0, .inl k, .inr (.inr (r_Ranks_keptR, (i * 81)))]) (σ' := srl σ [(r_Ranks_keptR, X)]) rfl ?_
          refine wp_iast rfl rfl (by omega) (wp_wr (l2 := [(r_Ranks_keptR, (up X ((i * 81) + k) 0))]) rfl ?_)
          show en_wp k_X4_keepEquation 42 [some (.inr (.inr (r_Ranks, 0))), some (.inl i), some (.inl s), some (.inl k)] [] (srl σ [(r_Ranks_keptR, (up X ((i * 81) + k) 0))]) _
          refine wp_run 2 (pc' := 2) (ls' := [some (.inr (.inr (r_Ranks, 0))), some (.inl i), some (.inl s), some (.inl (k + 1))]) (st' := []) (σ' := srl σ [(r_Ranks_keptR, (up X ((i * 81) + k) 0))]) rfl ?_
          exact ih_2 (k + 1) (up X ((i * 81) + k) 0) (by omega) (fun j a b => by rcases Int.lt_or_eq_of_le (show j ≤ k by omega) with h5 | h5 <;> first | (rw [up_ne (by omega)]; exact hX1 j a h5) | (subst h5; rw [up_eq]; first | rw [if_pos (by omega)] | rw [if_neg (by omega)])) (fun x h => by rw [up_ne (by omega)]; exact hX2 x h) (by omega)
  refine wp_run 2 (pc' := 2) (ls' := [some (.inr (.inr (r_Ranks, 0))), some (.inl i), some (.inl s), some (.inl 0)]) (st' := []) (σ' := srl σ []) rfl ?_
  refine wp_mem (srl_eq (l' := [(r_Ranks_keptR, (σ r_Ranks_keptR))]) trivial (And.intro rfl trivial)) ?_
  exact L_2 _ 0 (σ r_Ranks_keptR) (by omega) (fun j a b => by omega) (fun _ _ => rfl) (Nat.lt_succ_self _)
