/-! contracts of methods, walked (written by wip/whole/walk.py from the annotations ann_m65) -/
theorem ct_X10_resolve_Telling_names (σ : en_m) (i : Int) (told : Int) (hm : 0 ≤ (σ r_Tokens_amount) 0 ∧ (σ r_Tokens_amount) 0 ≤ 400) (hi9 : 0 ≤ i ∧ i < (σ r_Tokens_amount) 0) (ht : 0 ≤ told ∧ told ≤ 4) (hp9 : i64 ((σ r_Tokens_packed) i)) (hq9 : ∀ j, 0 ≤ j → j < told → i64 ((σ r_Telling_names) j)) : en_ct z_X10_resolve [.inr (.inr (r_Tokens, 0)), .inl i, .inr (.inr (r_Telling_names, 0)), .inl told] σ (fun r σ' => ∃ (f_Tokens_numbers : Int → Int), ∃ (rr : Int), r = some (.inl rr) ∧ σ' = srl σ [(r_Tokens_numbers, f_Tokens_numbers)] ∧ ((rr = 0 ∧ f_Tokens_numbers = (σ r_Tokens_numbers) ∧ ∀ j, 0 ≤ j → j < told → ¬ (σ r_Telling_names) j = (σ r_Tokens_packed) i) ∨ (rr = 1 ∧ ∃ j, (0 ≤ j ∧ j < told) ∧ (σ r_Telling_names) j = (σ r_Tokens_packed) i ∧ (∀ x, 0 ≤ x → x < j → ¬ (σ r_Telling_names) x = (σ r_Tokens_packed) i) ∧ f_Tokens_numbers = up (σ r_Tokens_numbers) i j))) := by
  show en_wp k_X10_resolve 0 [some (.inr (.inr (r_Tokens, 0))), some (.inl i), some (.inr (.inr (r_Telling_names, 0))), some (.inl told), none] [] (srl σ []) (fun r σ' => ∃ (f_Tokens_numbers : Int → Int), ∃ (rr : Int), r = some (.inl rr) ∧ σ' = srl σ [(r_Tokens_numbers, f_Tokens_numbers)] ∧ ((rr = 0 ∧ f_Tokens_numbers = (σ r_Tokens_numbers) ∧ ∀ j, 0 ≤ j → j < told → ¬ (σ r_Telling_names) j = (σ r_Tokens_packed) i) ∨ (rr = 1 ∧ ∃ j, (0 ≤ j ∧ j < told) ∧ (σ r_Telling_names) j = (σ r_Tokens_packed) i ∧ (∀ x, 0 ≤ x → x < j → ¬ (σ r_Telling_names) x = (σ r_Tokens_packed) i) ∧ f_Tokens_numbers = up (σ r_Tokens_numbers) i j)))
  have L_3 : ∀ (N : Nat) (lt : Int), (0 ≤ lt ∧ lt ≤ told) → (∀ j, 0 ≤ j → j < lt → ¬ σ r_Telling_names j = σ r_Tokens_packed i) → (told - lt).toNat < N → en_wp k_X10_resolve 3 [some (.inr (.inr (r_Tokens, 0))), some (.inl i), some (.inr (.inr (r_Telling_names, 0))), some (.inl told), some (.inl lt)] [] (srl σ []) (fun r σ' => ∃ (f_Tokens_numbers : Int → Int), ∃ (rr : Int), r = some (.inl rr) ∧ σ' = srl σ [(r_Tokens_numbers, f_Tokens_numbers)] ∧ ((rr = 0 ∧ f_Tokens_numbers = (σ r_Tokens_numbers) ∧ ∀ j, 0 ≤ j → j < told → ¬ (σ r_Telling_names) j = (σ r_Tokens_packed) i) ∨ (rr = 1 ∧ ∃ j, (0 ≤ j ∧ j < told) ∧ (σ r_Telling_names) j = (σ r_Tokens_packed) i ∧ (∀ x, 0 ≤ x → x < j → ¬ (σ r_Telling_names) x = (σ r_Tokens_packed) i) ∧ f_Tokens_numbers = up (σ r_Tokens_numbers) i j))) := by
    intro N
    induction N with
    | zero => intro lt; intros; omega
    | succ N ih_3 =>
      intro lt hl hno hN_3
      refine wp_run 2 (pc' := 6) (ls' := [some (.inr (.inr (r_Tokens, 0))), some (.inl i), some (.inr (.inr (r_Telling_names, 0))), some (.inl told), some (.inl lt)]) (st' := [.inl told, .inl lt]) (σ' := srl σ []) rfl ?_
      refine wp_ic_ge rfl (by omega) (by omega) (fun h_1 => ?_) (fun h_1 => ?_)
      · show en_wp k_X10_resolve 58 [some (.inr (.inr (r_Tokens, 0))), some (.inl i), some (.inr (.inr (r_Telling_names, 0))), some (.inl told), some (.inl lt)] [] (srl σ []) _
        refine wp_run 1 (pc' := 59) (ls' := [some (.inr (.inr (r_Tokens, 0))), some (.inl i), some (.inr (.inr (r_Telling_names, 0))), some (.inl told), some (.inl lt)]) (st' := [.inl 0]) (σ' := srl σ []) rfl ?_
        exact wp_zret rfl (.inl rfl) ⟨(σ r_Tokens_numbers), 0, rfl, srl_eq (l' := [(r_Tokens_numbers, σ r_Tokens_numbers)]) trivial (And.intro rfl trivial), (.inl ⟨rfl, rfl, fun j a b => hno j a (by omega)⟩)⟩
      · show en_wp k_X10_resolve 9 [some (.inr (.inr (r_Tokens, 0))), some (.inl i), some (.inr (.inr (r_Telling_names, 0))), some (.inl told), some (.inl lt)] [] (srl σ []) _
        refine wp_run 3 (pc' := 13) (ls' := [some (.inr (.inr (r_Tokens, 0))), some (.inl i), some (.inr (.inr (r_Telling_names, 0))), some (.inl told), some (.inl lt)]) (st' := [.inl 4, .inl lt]) (σ' := srl σ []) rfl ?_
        refine wp_ic_ge rfl (by omega) (by omega) (fun h_2 => ?_) (fun h_2 => ?_)
        · show en_wp k_X10_resolve 58 [some (.inr (.inr (r_Tokens, 0))), some (.inl i), some (.inr (.inr (r_Telling_names, 0))), some (.inl told), some (.inl lt)] [] (srl σ []) _
          refine wp_run 1 (pc' := 59) (ls' := [some (.inr (.inr (r_Tokens, 0))), some (.inl i), some (.inr (.inr (r_Telling_names, 0))), some (.inl told), some (.inl lt)]) (st' := [.inl 0]) (σ' := srl σ []) rfl ?_
          exact wp_zret rfl (.inl rfl) ⟨(σ r_Tokens_numbers), 0, rfl, srl_eq (l' := [(r_Tokens_numbers, σ r_Tokens_numbers)]) trivial (And.intro rfl trivial), (.inl ⟨rfl, rfl, fun j a b => hno j a (by omega)⟩)⟩
        · show en_wp k_X10_resolve 16 [some (.inr (.inr (r_Tokens, 0))), some (.inl i), some (.inr (.inr (r_Telling_names, 0))), some (.inl told), some (.inl lt)] [] (srl σ []) _
          refine wp_run 1 (pc' := 17) (ls' := [some (.inr (.inr (r_Tokens, 0))), some (.inl i), some (.inr (.inr (r_Telling_names, 0))), some (.inl told), some (.inl lt)]) (st' := [.inl i]) (σ' := srl σ []) rfl ?_
          refine wp_if_lt rfl (by omega) (fun h_3 => ?_) (fun h_3 => ?_)
          · show en_wp k_X10_resolve 52 [some (.inr (.inr (r_Tokens, 0))), some (.inl i), some (.inr (.inr (r_Telling_names, 0))), some (.inl told), some (.inl lt)] [] (srl σ []) _
            refine wp_run 2 (pc' := 3) (ls' := [some (.inr (.inr (r_Tokens, 0))), some (.inl i), some (.inr (.inr (r_Telling_names, 0))), some (.inl told), some (.inl (lt + 1))]) (st' := []) (σ' := srl σ []) rfl ?_
            exact ih_3 (lt + 1) (by omega) (fun j a b => by by_cases g9 : j = lt; rw [g9]; (first | assumption | (exfalso; omega)); exact hno j a (by omega)) (by omega)
          · show en_wp k_X10_resolve 20 [some (.inr (.inr (r_Tokens, 0))), some (.inl i), some (.inr (.inr (r_Telling_names, 0))), some (.inl told), some (.inl lt)] [] (srl σ []) _
            refine wp_run 3 (pc' := 25) (ls' := [some (.inr (.inr (r_Tokens, 0))), some (.inl i), some (.inr (.inr (r_Telling_names, 0))), some (.inl told), some (.inl lt)]) (st' := [.inl (σ r_Tokens_amount 0), .inl i]) (σ' := srl σ []) rfl ?_
            refine wp_ic_ge rfl (by omega) (by omega) (fun h_4 => ?_) (fun h_4 => ?_)
            · show en_wp k_X10_resolve 52 [some (.inr (.inr (r_Tokens, 0))), some (.inl i), some (.inr (.inr (r_Telling_names, 0))), some (.inl told), some (.inl lt)] [] (srl σ []) _
              refine wp_run 2 (pc' := 3) (ls' := [some (.inr (.inr (r_Tokens, 0))), some (.inl i), some (.inr (.inr (r_Telling_names, 0))), some (.inl told), some (.inl (lt + 1))]) (st' := []) (σ' := srl σ []) rfl ?_
              exact ih_3 (lt + 1) (by omega) (fun j a b => by by_cases g9 : j = lt; rw [g9]; (first | assumption | (exfalso; omega)); exact hno j a (by omega)) (by omega)
            · show en_wp k_X10_resolve 28 [some (.inr (.inr (r_Tokens, 0))), some (.inl i), some (.inr (.inr (r_Telling_names, 0))), some (.inl told), some (.inl lt)] [] (srl σ []) _
              refine wp_run 2 (pc' := 31) (ls' := [some (.inr (.inr (r_Tokens, 0))), some (.inl i), some (.inr (.inr (r_Telling_names, 0))), some (.inl told), some (.inl lt)]) (st' := [.inl lt, .inr (.inr (r_Telling_names, 0))]) (σ' := srl σ []) rfl ?_
              refine wp_lald0 rfl rfl (by omega) ?_
              show en_wp k_X10_resolve 32 [some (.inr (.inr (r_Tokens, 0))), some (.inl i), some (.inr (.inr (r_Telling_names, 0))), some (.inl told), some (.inl lt)] [.inr (.inl (σ r_Telling_names lt))] (srl σ []) _
              refine wp_run 3 (pc' := 37) (ls' := [some (.inr (.inr (r_Tokens, 0))), some (.inl i), some (.inr (.inr (r_Telling_names, 0))), some (.inl told), some (.inl lt)]) (st' := [.inl i, .inr (.inr (r_Tokens_packed, 0)), .inr (.inl (σ r_Telling_names lt))]) (σ' := srl σ []) rfl ?_
              refine wp_lald0 rfl rfl (by omega) ?_
              show en_wp k_X10_resolve 38 [some (.inr (.inr (r_Tokens, 0))), some (.inl i), some (.inr (.inr (r_Telling_names, 0))), some (.inl told), some (.inl lt)] [.inr (.inl (σ r_Tokens_packed i)), .inr (.inl (σ r_Telling_names lt))] (srl σ []) _
              have hz9 := hq9 lt hl.1 (by omega)
              refine wp_lc_ne rfl (by omega) (by omega) rfl (fun h_5 => ?_) (fun h_5 => ?_)
              · show en_wp k_X10_resolve 52 [some (.inr (.inr (r_Tokens, 0))), some (.inl i), some (.inr (.inr (r_Telling_names, 0))), some (.inl told), some (.inl lt)] [] (srl σ []) _
                refine wp_run 2 (pc' := 3) (ls' := [some (.inr (.inr (r_Tokens, 0))), some (.inl i), some (.inr (.inr (r_Telling_names, 0))), some (.inl told), some (.inl (lt + 1))]) (st' := []) (σ' := srl σ []) rfl ?_
                exact ih_3 (lt + 1) (by omega) (fun j a b => by by_cases g9 : j = lt; rw [g9]; (first | assumption | (exfalso; omega)); exact hno j a (by omega)) (by omega)
              · show en_wp k_X10_resolve 42 [some (.inr (.inr (r_Tokens, 0))), some (.inl i), some (.inr (.inr (r_Telling_names, 0))), some (.inl told), some (.inl lt)] [] (srl σ []) _
                refine wp_run 4 (pc' := 49) (ls' := [some (.inr (.inr (r_Tokens, 0))), some (.inl i), some (.inr (.inr (r_Telling_names, 0))), some (.inl told), some (.inl lt)]) (st' := [.inl lt, .inl i, .inr (.inr (r_Tokens_numbers, 0))]) (σ' := srl σ []) rfl ?_
                refine wp_iast0 rfl rfl (by omega) (wp_wr (l2 := [(r_Tokens_numbers, (up (σ r_Tokens_numbers) i lt))]) rfl ?_)
                show en_wp k_X10_resolve 50 [some (.inr (.inr (r_Tokens, 0))), some (.inl i), some (.inr (.inr (r_Telling_names, 0))), some (.inl told), some (.inl lt)] [] (srl σ [(r_Tokens_numbers, (up (σ r_Tokens_numbers) i lt))]) _
                refine wp_run 1 (pc' := 51) (ls' := [some (.inr (.inr (r_Tokens, 0))), some (.inl i), some (.inr (.inr (r_Telling_names, 0))), some (.inl told), some (.inl lt)]) (st' := [.inl 1]) (σ' := srl σ [(r_Tokens_numbers, (up (σ r_Tokens_numbers) i lt))]) rfl ?_
                exact wp_zret rfl (.inr rfl) ⟨(up (σ r_Tokens_numbers) i lt), 1, rfl, srl_eq (l' := [(r_Tokens_numbers, (up (σ r_Tokens_numbers) i lt))]) (And.intro rfl trivial) (And.intro rfl trivial), (.inr ⟨rfl, lt, ⟨hl.1, by omega⟩, by assumption, hno, rfl⟩)⟩
  refine wp_run 2 (pc' := 3) (ls' := [some (.inr (.inr (r_Tokens, 0))), some (.inl i), some (.inr (.inr (r_Telling_names, 0))), some (.inl told), some (.inl 0)]) (st' := []) (σ' := srl σ []) rfl ?_
  exact L_3 _ 0 (by omega) (fun j a b => by omega) (Nat.lt_succ_self _)
theorem ct_X10_resolve_WA_names (σ : en_m) (i : Int) (told : Int) (hm : 0 ≤ (σ r_Tokens_amount) 0 ∧ (σ r_Tokens_amount) 0 ≤ 400) (hi9 : 0 ≤ i ∧ i < (σ r_Tokens_amount) 0) (ht : 0 ≤ told ∧ told ≤ 4) (hp9 : i64 ((σ r_Tokens_packed) i)) (hq9 : ∀ j, 0 ≤ j → j < told → i64 ((σ r_WA_names) j)) : en_ct z_X10_resolve [.inr (.inr (r_Tokens, 0)), .inl i, .inr (.inr (r_WA_names, 0)), .inl told] σ (fun r σ' => ∃ (f_Tokens_numbers : Int → Int), ∃ (rr : Int), r = some (.inl rr) ∧ σ' = srl σ [(r_Tokens_numbers, f_Tokens_numbers)] ∧ ((rr = 0 ∧ f_Tokens_numbers = (σ r_Tokens_numbers) ∧ ∀ j, 0 ≤ j → j < told → ¬ (σ r_WA_names) j = (σ r_Tokens_packed) i) ∨ (rr = 1 ∧ ∃ j, (0 ≤ j ∧ j < told) ∧ (σ r_WA_names) j = (σ r_Tokens_packed) i ∧ (∀ x, 0 ≤ x → x < j → ¬ (σ r_WA_names) x = (σ r_Tokens_packed) i) ∧ f_Tokens_numbers = up (σ r_Tokens_numbers) i j))) := by
  show en_wp k_X10_resolve 0 [some (.inr (.inr (r_Tokens, 0))), some (.inl i), some (.inr (.inr (r_WA_names, 0))), some (.inl told), none] [] (srl σ []) (fun r σ' => ∃ (f_Tokens_numbers : Int → Int), ∃ (rr : Int), r = some (.inl rr) ∧ σ' = srl σ [(r_Tokens_numbers, f_Tokens_numbers)] ∧ ((rr = 0 ∧ f_Tokens_numbers = (σ r_Tokens_numbers) ∧ ∀ j, 0 ≤ j → j < told → ¬ (σ r_WA_names) j = (σ r_Tokens_packed) i) ∨ (rr = 1 ∧ ∃ j, (0 ≤ j ∧ j < told) ∧ (σ r_WA_names) j = (σ r_Tokens_packed) i ∧ (∀ x, 0 ≤ x → x < j → ¬ (σ r_WA_names) x = (σ r_Tokens_packed) i) ∧ f_Tokens_numbers = up (σ r_Tokens_numbers) i j)))
  have L_3 : ∀ (N : Nat) (lt : Int), (0 ≤ lt ∧ lt ≤ told) → (∀ j, 0 ≤ j → j < lt → ¬ σ r_WA_names j = σ r_Tokens_packed i) → (told - lt).toNat < N → en_wp k_X10_resolve 3 [some (.inr (.inr (r_Tokens, 0))), some (.inl i), some (.inr (.inr (r_WA_names, 0))), some (.inl told), some (.inl lt)] [] (srl σ []) (fun r σ' => ∃ (f_Tokens_numbers : Int → Int), ∃ (rr : Int), r = some (.inl rr) ∧ σ' = srl σ [(r_Tokens_numbers, f_Tokens_numbers)] ∧ ((rr = 0 ∧ f_Tokens_numbers = (σ r_Tokens_numbers) ∧ ∀ j, 0 ≤ j → j < told → ¬ (σ r_WA_names) j = (σ r_Tokens_packed) i) ∨ (rr = 1 ∧ ∃ j, (0 ≤ j ∧ j < told) ∧ (σ r_WA_names) j = (σ r_Tokens_packed) i ∧ (∀ x, 0 ≤ x → x < j → ¬ (σ r_WA_names) x = (σ r_Tokens_packed) i) ∧ f_Tokens_numbers = up (σ r_Tokens_numbers) i j))) := by
    intro N
    induction N with
    | zero => intro lt; intros; omega
    | succ N ih_3 =>
      intro lt hl hno hN_3
      refine wp_run 2 (pc' := 6) (ls' := [some (.inr (.inr (r_Tokens, 0))), some (.inl i), some (.inr (.inr (r_WA_names, 0))), some (.inl told), some (.inl lt)]) (st' := [.inl told, .inl lt]) (σ' := srl σ []) rfl ?_
      refine wp_ic_ge rfl (by omega) (by omega) (fun h_1 => ?_) (fun h_1 => ?_)
      · show en_wp k_X10_resolve 58 [some (.inr (.inr (r_Tokens, 0))), some (.inl i), some (.inr (.inr (r_WA_names, 0))), some (.inl told), some (.inl lt)] [] (srl σ []) _
        refine wp_run 1 (pc' := 59) (ls' := [some (.inr (.inr (r_Tokens, 0))), some (.inl i), some (.inr (.inr (r_WA_names, 0))), some (.inl told), some (.inl lt)]) (st' := [.inl 0]) (σ' := srl σ []) rfl ?_
        exact wp_zret rfl (.inl rfl) ⟨(σ r_Tokens_numbers), 0, rfl, srl_eq (l' := [(r_Tokens_numbers, σ r_Tokens_numbers)]) trivial (And.intro rfl trivial), (.inl ⟨rfl, rfl, fun j a b => hno j a (by omega)⟩)⟩
      · show en_wp k_X10_resolve 9 [some (.inr (.inr (r_Tokens, 0))), some (.inl i), some (.inr (.inr (r_WA_names, 0))), some (.inl told), some (.inl lt)] [] (srl σ []) _
        refine wp_run 3 (pc' := 13) (ls' := [some (.inr (.inr (r_Tokens, 0))), some (.inl i), some (.inr (.inr (r_WA_names, 0))), some (.inl told), some (.inl lt)]) (st' := [.inl 4, .inl lt]) (σ' := srl σ []) rfl ?_
        refine wp_ic_ge rfl (by omega) (by omega) (fun h_2 => ?_) (fun h_2 => ?_)
        · show en_wp k_X10_resolve 58 [some (.inr (.inr (r_Tokens, 0))), some (.inl i), some (.inr (.inr (r_WA_names, 0))), some (.inl told), some (.inl lt)] [] (srl σ []) _
          refine wp_run 1 (pc' := 59) (ls' := [some (.inr (.inr (r_Tokens, 0))), some (.inl i), some (.inr (.inr (r_WA_names, 0))), some (.inl told), some (.inl lt)]) (st' := [.inl 0]) (σ' := srl σ []) rfl ?_
          exact wp_zret rfl (.inl rfl) ⟨(σ r_Tokens_numbers), 0, rfl, srl_eq (l' := [(r_Tokens_numbers, σ r_Tokens_numbers)]) trivial (And.intro rfl trivial), (.inl ⟨rfl, rfl, fun j a b => hno j a (by omega)⟩)⟩
        · show en_wp k_X10_resolve 16 [some (.inr (.inr (r_Tokens, 0))), some (.inl i), some (.inr (.inr (r_WA_names, 0))), some (.inl told), some (.inl lt)] [] (srl σ []) _
          refine wp_run 1 (pc' := 17) (ls' := [some (.inr (.inr (r_Tokens, 0))), some (.inl i), some (.inr (.inr (r_WA_names, 0))), some (.inl told), some (.inl lt)]) (st' := [.inl i]) (σ' := srl σ []) rfl ?_
          refine wp_if_lt rfl (by omega) (fun h_3 => ?_) (fun h_3 => ?_)
          · show en_wp k_X10_resolve 52 [some (.inr (.inr (r_Tokens, 0))), some (.inl i), some (.inr (.inr (r_WA_names, 0))), some (.inl told), some (.inl lt)] [] (srl σ []) _
            refine wp_run 2 (pc' := 3) (ls' := [some (.inr (.inr (r_Tokens, 0))), some (.inl i), some (.inr (.inr (r_WA_names, 0))), some (.inl told), some (.inl (lt + 1))]) (st' := []) (σ' := srl σ []) rfl ?_
            exact ih_3 (lt + 1) (by omega) (fun j a b => by by_cases g9 : j = lt; rw [g9]; (first | assumption | (exfalso; omega)); exact hno j a (by omega)) (by omega)
          · show en_wp k_X10_resolve 20 [some (.inr (.inr (r_Tokens, 0))), some (.inl i), some (.inr (.inr (r_WA_names, 0))), some (.inl told), some (.inl lt)] [] (srl σ []) _
            refine wp_run 3 (pc' := 25) (ls' := [some (.inr (.inr (r_Tokens, 0))), some (.inl i), some (.inr (.inr (r_WA_names, 0))), some (.inl told), some (.inl lt)]) (st' := [.inl (σ r_Tokens_amount 0), .inl i]) (σ' := srl σ []) rfl ?_
            refine wp_ic_ge rfl (by omega) (by omega) (fun h_4 => ?_) (fun h_4 => ?_)
            · show en_wp k_X10_resolve 52 [some (.inr (.inr (r_Tokens, 0))), some (.inl i), some (.inr (.inr (r_WA_names, 0))), some (.inl told), some (.inl lt)] [] (srl σ []) _
              refine wp_run 2 (pc' := 3) (ls' := [some (.inr (.inr (r_Tokens, 0))), some (.inl i), some (.inr (.inr (r_WA_names, 0))), some (.inl told), some (.inl (lt + 1))]) (st' := []) (σ' := srl σ []) rfl ?_
              exact ih_3 (lt + 1) (by omega) (fun j a b => by by_cases g9 : j = lt; rw [g9]; (first | assumption | (exfalso; omega)); exact hno j a (by omega)) (by omega)
            · show en_wp k_X10_resolve 28 [some (.inr (.inr (r_Tokens, 0))), some (.inl i), some (.inr (.inr (r_WA_names, 0))), some (.inl told), some (.inl lt)] [] (srl σ []) _
              refine wp_run 2 (pc' := 31) (ls' := [some (.inr (.inr (r_Tokens, 0))), some (.inl i), some (.inr (.inr (r_WA_names, 0))), some (.inl told), some (.inl lt)]) (st' := [.inl lt, .inr (.inr (r_WA_names, 0))]) (σ' := srl σ []) rfl ?_
              refine wp_lald0 rfl rfl (by omega) ?_
              show en_wp k_X10_resolve 32 [some (.inr (.inr (r_Tokens, 0))), some (.inl i), some (.inr (.inr (r_WA_names, 0))), some (.inl told), some (.inl lt)] [.inr (.inl (σ r_WA_names lt))] (srl σ []) _
              refine wp_run 3 (pc' := 37) (ls' := [some (.inr (.inr (r_Tokens, 0))), some (.inl i), some (.inr (.inr (r_WA_names, 0))), some (.inl told), some (.inl lt)]) (st' := [.inl i, .inr (.inr (r_Tokens_packed, 0)), .inr (.inl (σ r_WA_names lt))]) (σ' := srl σ []) rfl ?_
              refine wp_lald0 rfl rfl (by omega) ?_
              show en_wp k_X10_resolve 38 [some (.inr (.inr (r_Tokens, 0))), some (.inl i), some (.inr (.inr (r_WA_names, 0))), some (.inl told), some (.inl lt)] [.inr (.inl (σ r_Tokens_packed i)), .inr (.inl (σ r_WA_names lt))] (srl σ []) _
              have hz9 := hq9 lt hl.1 (by omega)
              refine wp_lc_ne rfl (by omega) (by omega) rfl (fun h_5 => ?_) (fun h_5 => ?_)
              · show en_wp k_X10_resolve 52 [some (.inr (.inr (r_Tokens, 0))), some (.inl i), some (.inr (.inr (r_WA_names, 0))), some (.inl told), some (.inl lt)] [] (srl σ []) _
                refine wp_run 2 (pc' := 3) (ls' := [some (.inr (.inr (r_Tokens, 0))), some (.inl i), some (.inr (.inr (r_WA_names, 0))), some (.inl told), some (.inl (lt + 1))]) (st' := []) (σ' := srl σ []) rfl ?_
                exact ih_3 (lt + 1) (by omega) (fun j a b => by by_cases g9 : j = lt; rw [g9]; (first | assumption | (exfalso; omega)); exact hno j a (by omega)) (by omega)
              · show en_wp k_X10_resolve 42 [some (.inr (.inr (r_Tokens, 0))), some (.inl i), some (.inr (.inr (r_WA_names, 0))), some (.inl told), some (.inl lt)] [] (srl σ []) _
                refine wp_run 4 (pc' := 49) (ls' := [some (.inr (.inr (r_Tokens, 0))), some (.inl i), some (.inr (.inr (r_WA_names, 0))), some (.inl told), some (.inl lt)]) (st' := [.inl lt, .inl i, .inr (.inr (r_Tokens_numbers, 0))]) (σ' := srl σ []) rfl ?_
                refine wp_iast0 rfl rfl (by omega) (wp_wr (l2 := [(r_Tokens_numbers, (up (σ r_Tokens_numbers) i lt))]) rfl ?_)
                show en_wp k_X10_resolve 50 [some (.inr (.inr (r_Tokens, 0))), some (.inl i), some (.inr (.inr (r_WA_names, 0))), some (.inl told), some (.inl lt)] [] (srl σ [(r_Tokens_numbers, (up (σ r_Tokens_numbers) i lt))]) _
                refine wp_run 1 (pc' := 51) (ls' := [some (.inr (.inr (r_Tokens, 0))), some (.inl i), some (.inr (.inr (r_WA_names, 0))), some (.inl told), some (.inl lt)]) (st' := [.inl 1]) (σ' := srl σ [(r_Tokens_numbers, (up (σ r_Tokens_numbers) i lt))]) rfl ?_
                exact wp_zret rfl (.inr rfl) ⟨(up (σ r_Tokens_numbers) i lt), 1, rfl, srl_eq (l' := [(r_Tokens_numbers, (up (σ r_Tokens_numbers) i lt))]) (And.intro rfl trivial) (And.intro rfl trivial), (.inr ⟨rfl, lt, ⟨hl.1, by omega⟩, by assumption, hno, rfl⟩)⟩
  refine wp_run 2 (pc' := 3) (ls' := [some (.inr (.inr (r_Tokens, 0))), some (.inl i), some (.inr (.inr (r_WA_names, 0))), some (.inl told), some (.inl 0)]) (st' := []) (σ' := srl σ []) rfl ?_
  exact L_3 _ 0 (by omega) (fun j a b => by omega) (Nat.lt_succ_self _)
