/-! contracts of methods, walked (written by wip/whole/walk.py from the annotations ann_m66) -/
theorem ct_X10_resolveAll_WA_names (σ : en_m) (told : Int) (hm : 0 ≤ (σ r_Tokens_amount) 0 ∧ (σ r_Tokens_amount) 0 ≤ 400) (ht : 0 ≤ told ∧ told ≤ 4) (hpk : ∀ j, 0 ≤ j → j < (σ r_Tokens_amount) 0 → (σ r_Tokens_kinds) j = 5 → i64 ((σ r_Tokens_packed) j)) (hq9 : ∀ j, 0 ≤ j → j < told → i64 ((σ r_WA_names) j)) (hks : ∀ j, 0 ≤ j → j < (σ r_Tokens_amount) 0 → 0 ≤ (σ r_Tokens_kinds) j ∧ (σ r_Tokens_kinds) j ≤ 12) : en_ct z_X10_resolveAll [.inr (.inr (r_Tokens, 0)), .inr (.inr (r_WA_names, 0)), .inl told] σ (fun r σ' => ∃ (f_Tokens_numbers : Int → Int), ∃ (rr : Int), r = some (.inl rr) ∧ σ' = srl σ [(r_Tokens_numbers, f_Tokens_numbers)] ∧ ((rr = -1 ∧ raQ (σ r_WA_names) told (σ r_Tokens_kinds) (σ r_Tokens_packed) (σ r_Tokens_numbers) f_Tokens_numbers ((σ r_Tokens_amount) 0)) ∨ ((0 ≤ rr ∧ rr < (σ r_Tokens_amount) 0) ∧ (σ r_Tokens_kinds) rr = 5 ∧ fd (σ r_WA_names) ((σ r_Tokens_packed) rr) told = told ∧ raQ (σ r_WA_names) told (σ r_Tokens_kinds) (σ r_Tokens_packed) (σ r_Tokens_numbers) f_Tokens_numbers rr))) := by
  show en_wp k_X10_resolveAll 0 [some (.inr (.inr (r_Tokens, 0))), some (.inr (.inr (r_WA_names, 0))), some (.inl told), none] [] (srl σ []) (fun r σ' => ∃ (f_Tokens_numbers : Int → Int), ∃ (rr : Int), r = some (.inl rr) ∧ σ' = srl σ [(r_Tokens_numbers, f_Tokens_numbers)] ∧ ((rr = -1 ∧ raQ (σ r_WA_names) told (σ r_Tokens_kinds) (σ r_Tokens_packed) (σ r_Tokens_numbers) f_Tokens_numbers ((σ r_Tokens_amount) 0)) ∨ ((0 ≤ rr ∧ rr < (σ r_Tokens_amount) 0) ∧ (σ r_Tokens_kinds) rr = 5 ∧ fd (σ r_WA_names) ((σ r_Tokens_packed) rr) told = told ∧ raQ (σ r_WA_names) told (σ r_Tokens_kinds) (σ r_Tokens_packed) (σ r_Tokens_numbers) f_Tokens_numbers rr)))
  have L_2 : ∀ (N : Nat) (k : Int) (N1 : Int → Int), (0 ≤ k ∧ k ≤ σ r_Tokens_amount 0) → (raQ (σ r_WA_names) told (σ r_Tokens_kinds) (σ r_Tokens_packed) (σ r_Tokens_numbers) N1 k) → (σ r_Tokens_amount 0 - k).toNat < N → en_wp k_X10_resolveAll 2 [some (.inr (.inr (r_Tokens, 0))), some (.inr (.inr (r_WA_names, 0))), some (.inl told), some (.inl k)] [] (srl σ [(r_Tokens_numbers, N1)]) (fun r σ' => ∃ (f_Tokens_numbers : Int → Int), ∃ (rr : Int), r = some (.inl rr) ∧ σ' = srl σ [(r_Tokens_numbers, f_Tokens_numbers)] ∧ ((rr = -1 ∧ raQ (σ r_WA_names) told (σ r_Tokens_kinds) (σ r_Tokens_packed) (σ r_Tokens_numbers) f_Tokens_numbers ((σ r_Tokens_amount) 0)) ∨ ((0 ≤ rr ∧ rr < (σ r_Tokens_amount) 0) ∧ (σ r_Tokens_kinds) rr = 5 ∧ fd (σ r_WA_names) ((σ r_Tokens_packed) rr) told = told ∧ raQ (σ r_WA_names) told (σ r_Tokens_kinds) (σ r_Tokens_packed) (σ r_Tokens_numbers) f_Tokens_numbers rr))) := by
    intro N
    induction N with
    | zero => intro k N1; intros; omega
    | succ N ih_2 =>
      intro k N1 hk hA hN_2
      refine wp_run 3 (pc' := 7) (ls' := [some (.inr (.inr (r_Tokens, 0))), some (.inr (.inr (r_WA_names, 0))), some (.inl told), some (.inl k)]) (st' := [.inl (σ r_Tokens_amount 0), .inl k]) (σ' := srl σ [(r_Tokens_numbers, N1)]) rfl ?_
      refine wp_ic_ge rfl (by omega) (by omega) (fun h_1 => ?_) (fun h_1 => ?_)
      · show en_wp k_X10_resolveAll 38 [some (.inr (.inr (r_Tokens, 0))), some (.inr (.inr (r_WA_names, 0))), some (.inl told), some (.inl k)] [] (srl σ [(r_Tokens_numbers, N1)]) _
        refine wp_run 1 (pc' := 39) (ls' := [some (.inr (.inr (r_Tokens, 0))), some (.inr (.inr (r_WA_names, 0))), some (.inl told), some (.inl k)]) (st' := [.inl (-1)]) (σ' := srl σ [(r_Tokens_numbers, N1)]) rfl ?_
        exact wp_iret rfl ⟨N1, (-1), rfl, srl_eq (l' := [(r_Tokens_numbers, N1)]) (And.intro rfl trivial) (And.intro rfl trivial), (.inl ⟨rfl, by rw [show σ r_Tokens_amount 0 = k by omega]; exact hA⟩)⟩
      · show en_wp k_X10_resolveAll 10 [some (.inr (.inr (r_Tokens, 0))), some (.inr (.inr (r_WA_names, 0))), some (.inl told), some (.inl k)] [] (srl σ [(r_Tokens_numbers, N1)]) _
        refine wp_run 3 (pc' := 15) (ls' := [some (.inr (.inr (r_Tokens, 0))), some (.inr (.inr (r_WA_names, 0))), some (.inl told), some (.inl k)]) (st' := [.inl k, .inr (.inr (r_Tokens_kinds, 0))]) (σ' := srl σ [(r_Tokens_numbers, N1)]) rfl ?_
        refine wp_iald0 rfl rfl (by omega) ?_
        show en_wp k_X10_resolveAll 16 [some (.inr (.inr (r_Tokens, 0))), some (.inr (.inr (r_WA_names, 0))), some (.inl told), some (.inl k)] [.inl (σ r_Tokens_kinds k)] (srl σ [(r_Tokens_numbers, N1)]) _
        refine wp_run 1 (pc' := 17) (ls' := [some (.inr (.inr (r_Tokens, 0))), some (.inr (.inr (r_WA_names, 0))), some (.inl told), some (.inl k)]) (st' := [.inl 5, .inl (σ r_Tokens_kinds k)]) (σ' := srl σ [(r_Tokens_numbers, N1)]) rfl ?_
        have hk9 := hks k hk.1 (by omega)
        refine wp_ic_ne rfl (by omega) (by omega) (fun h_2 => ?_) (fun h_2 => ?_)
        · show en_wp k_X10_resolveAll 32 [some (.inr (.inr (r_Tokens, 0))), some (.inr (.inr (r_WA_names, 0))), some (.inl told), some (.inl k)] [] (srl σ [(r_Tokens_numbers, N1)]) _
          refine wp_run 2 (pc' := 2) (ls' := [some (.inr (.inr (r_Tokens, 0))), some (.inr (.inr (r_WA_names, 0))), some (.inl told), some (.inl (k + 1))]) (st' := []) (σ' := srl σ [(r_Tokens_numbers, N1)]) rfl ?_
          exact ih_2 (k + 1) N1 (by omega) (ra_n hA (by assumption)) (by omega)
        · show en_wp k_X10_resolveAll 20 [some (.inr (.inr (r_Tokens, 0))), some (.inr (.inr (r_WA_names, 0))), some (.inl told), some (.inl k)] [] (srl σ [(r_Tokens_numbers, N1)]) _
          refine wp_run 4 (pc' := 24) (ls' := [some (.inr (.inr (r_Tokens, 0))), some (.inr (.inr (r_WA_names, 0))), some (.inl told), some (.inl k)]) (st' := [.inl told, .inr (.inr (r_WA_names, 0)), .inl k, .inr (.inr (r_Tokens, 0))]) (σ' := srl σ [(r_Tokens_numbers, N1)]) rfl ?_
          refine wp_callv rfl rfl rfl rfl (ct_X10_resolve_WA_names (srl σ [(r_Tokens_numbers, N1)]) k told hm (by show 0 ≤ k ∧ k < σ r_Tokens_amount 0; omega) (by omega) (hpk k hk.1 (by omega) (by assumption)) hq9) ?_
          rintro _ _ ⟨f_3, r_4, rfl, rfl, p_5⟩
          have p_5 : (r_4 = 0 ∧ f_3 = N1 ∧ ∀ j, 0 ≤ j → j < told → ¬ (σ r_WA_names) j = (σ r_Tokens_packed) k) ∨ (r_4 = 1 ∧ ∃ j, (0 ≤ j ∧ j < told) ∧ (σ r_WA_names) j = (σ r_Tokens_packed) k ∧ (∀ x, 0 ≤ x → x < j → ¬ (σ r_WA_names) x = (σ r_Tokens_packed) k) ∧ f_3 = up N1 k j) := p_5
          refine wp_bk (l2 := [(r_Tokens_numbers, f_3)]) rfl rfl ?_
          show en_wp k_X10_resolveAll 27 [some (.inr (.inr (r_Tokens, 0))), some (.inr (.inr (r_WA_names, 0))), some (.inl told), some (.inl k)] [.inl r_4] (srl σ [(r_Tokens_numbers, f_3)]) _
          have kr := rs_of (NM := σ r_WA_names) (PK := σ r_Tokens_packed) ht.1 (p_5)
          clear p_5
          clear p_5
          have krb : r_4 = 0 ∨ r_4 = 1 := by rcases kr with q | q; exact .inl q.1; exact .inr q.1
          refine wp_if_ne rfl (by omega) (fun h_6 => ?_) (fun h_6 => ?_)
          · show en_wp k_X10_resolveAll 32 [some (.inr (.inr (r_Tokens, 0))), some (.inr (.inr (r_WA_names, 0))), some (.inl told), some (.inl k)] [] (srl σ [(r_Tokens_numbers, f_3)]) _
            refine wp_run 2 (pc' := 2) (ls' := [some (.inr (.inr (r_Tokens, 0))), some (.inr (.inr (r_WA_names, 0))), some (.inl told), some (.inl (k + 1))]) (st' := []) (σ' := srl σ [(r_Tokens_numbers, f_3)]) rfl ?_
            exact ih_2 (k + 1) f_3 (by omega) (ra_y hA (by assumption) (by rcases kr with q | q; exact absurd q.1 (by assumption); exact q.2)) (by omega)
          · show en_wp k_X10_resolveAll 30 [some (.inr (.inr (r_Tokens, 0))), some (.inr (.inr (r_WA_names, 0))), some (.inl told), some (.inl k)] [] (srl σ [(r_Tokens_numbers, f_3)]) _
            refine wp_run 1 (pc' := 31) (ls' := [some (.inr (.inr (r_Tokens, 0))), some (.inr (.inr (r_WA_names, 0))), some (.inl told), some (.inl k)]) (st' := [.inl k]) (σ' := srl σ [(r_Tokens_numbers, f_3)]) rfl ?_
            exact wp_iret rfl ⟨f_3, k, rfl, srl_eq (l' := [(r_Tokens_numbers, f_3)]) (And.intro rfl trivial) (And.intro rfl trivial), (.inr ⟨⟨hk.1, by omega⟩, by assumption, by rcases kr with q | q; exact q.2.1; omega, by rcases kr with q | q; rw [q.2.2]; exact hA; omega⟩)⟩
  refine wp_run 2 (pc' := 2) (ls' := [some (.inr (.inr (r_Tokens, 0))), some (.inr (.inr (r_WA_names, 0))), some (.inl told), some (.inl 0)]) (st' := []) (σ' := srl σ []) rfl ?_
  refine wp_mem (srl_eq (l' := [(r_Tokens_numbers, (σ r_Tokens_numbers))]) trivial (And.intro rfl trivial)) ?_
  exact L_2 _ 0 (σ r_Tokens_numbers) (by omega) ra_0 (Nat.lt_succ_self _)
