/-! contracts of methods, walked (written by wip/whole/walk.py from the annotations ann_qd) -/
theorem ct_X3_isQuadratic_Nought0 (σ : en_m) (h1 : 0 ≤ (σ r_Nought0_lawsNow) 0 ∧ (σ r_Nought0_lawsNow) 0 ≤ 8) (h2 : ∀ k : Int, i32 ((σ r_Nought0_lengths) k)) : en_ct z_X3_isQuadratic [.inr (.inr (r_Nought0, 0))] σ (fun r σ' => ∃ (rr : Int), r = some (.inl rr) ∧ σ' = srl σ [] ∧ ((rr = 1 ∧ (∀ k : Int, 0 ≤ k → k < (σ r_Nought0_lawsNow) 0 → (σ r_Nought0_lengths) k = 0 ∨ (σ r_Nought0_lengths) k = 2)) ∨ (rr = 0 ∧ ¬ (∀ k : Int, 0 ≤ k → k < (σ r_Nought0_lawsNow) 0 → (σ r_Nought0_lengths) k = 0 ∨ (σ r_Nought0_lengths) k = 2)))) := by
  show en_wp k_X3_isQuadratic 0 [some (.inr (.inr (r_Nought0, 0))), none] [] (srl σ []) (fun r σ' => ∃ (rr : Int), r = some (.inl rr) ∧ σ' = srl σ [] ∧ ((rr = 1 ∧ (∀ k : Int, 0 ≤ k → k < (σ r_Nought0_lawsNow) 0 → (σ r_Nought0_lengths) k = 0 ∨ (σ r_Nought0_lengths) k = 2)) ∨ (rr = 0 ∧ ¬ (∀ k : Int, 0 ≤ k → k < (σ r_Nought0_lawsNow) 0 → (σ r_Nought0_lengths) k = 0 ∨ (σ r_Nought0_lengths) k = 2))))
  have L_2 : ∀ (N : Nat) (k : Int), (0 ≤ k ∧ k ≤ σ r_Nought0_lawsNow 0) → (∀ j : Int, 0 ≤ j → j < k → σ r_Nought0_lengths j = 0 ∨ σ r_Nought0_lengths j = 2) → (σ r_Nought0_lawsNow 0 - k).toNat < N → en_wp k_X3_isQuadratic 2 [some (.inr (.inr (r_Nought0, 0))), some (.inl k)] [] (srl σ []) (fun r σ' => ∃ (rr : Int), r = some (.inl rr) ∧ σ' = srl σ [] ∧ ((rr = 1 ∧ (∀ k : Int, 0 ≤ k → k < (σ r_Nought0_lawsNow) 0 → (σ r_Nought0_lengths) k = 0 ∨ (σ r_Nought0_lengths) k = 2)) ∨ (rr = 0 ∧ ¬ (∀ k : Int, 0 ≤ k → k < (σ r_Nought0_lawsNow) 0 → (σ r_Nought0_lengths) k = 0 ∨ (σ r_Nought0_lengths) k = 2)))) := by
    intro N
    induction N with
    | zero => intro k; intros; omega
    | succ N ih_2 =>
      intro k hk hq hN_2
      refine wp_run 3 (pc' := 7) (ls' := [some (.inr (.inr (r_Nought0, 0))), some (.inl k)]) (st' := [.inl (σ r_Nought0_lawsNow 0), .inl k]) (σ' := srl σ []) rfl ?_
      refine wp_ic_ge rfl (by omega) (by omega) (fun h_1 => ?_) (fun h_1 => ?_)
      · show en_wp k_X3_isQuadratic 37 [some (.inr (.inr (r_Nought0, 0))), some (.inl k)] [] (srl σ []) _
        refine wp_run 1 (pc' := 38) (ls' := [some (.inr (.inr (r_Nought0, 0))), some (.inl k)]) (st' := [.inl 1]) (σ' := srl σ []) rfl ?_
        exact wp_zret rfl (.inr rfl) ⟨1, rfl, srl_eq (l' := []) trivial trivial, (.inl ⟨rfl, by intro j h3 h4; exact hq j h3 (by omega)⟩)⟩
      · show en_wp k_X3_isQuadratic 10 [some (.inr (.inr (r_Nought0, 0))), some (.inl k)] [] (srl σ []) _
        refine wp_run 3 (pc' := 15) (ls' := [some (.inr (.inr (r_Nought0, 0))), some (.inl k)]) (st' := [.inl k, .inr (.inr (r_Nought0_lengths, 0))]) (σ' := srl σ []) rfl ?_
        have hx := h2 k
        refine wp_iald0 rfl rfl (by omega) ?_
        show en_wp k_X3_isQuadratic 16 [some (.inr (.inr (r_Nought0, 0))), some (.inl k)] [.inl (σ r_Nought0_lengths k)] (srl σ []) _
        refine wp_if_eq rfl (by omega) (fun h_2 => ?_) (fun h_2 => ?_)
        · show en_wp k_X3_isQuadratic 31 [some (.inr (.inr (r_Nought0, 0))), some (.inl k)] [] (srl σ []) _
          refine wp_run 2 (pc' := 2) (ls' := [some (.inr (.inr (r_Nought0, 0))), some (.inl (k + 1))]) (st' := []) (σ' := srl σ []) rfl ?_
          exact ih_2 (k + 1) (by omega) (by intro j h3 h4; rcases Int.lt_or_eq_of_le (show j ≤ k by omega) with h9 | h9 <;> first | exact hq j h3 h9 | (rw [h9]; omega)) (by omega)
        · show en_wp k_X3_isQuadratic 19 [some (.inr (.inr (r_Nought0, 0))), some (.inl k)] [] (srl σ []) _
          refine wp_run 3 (pc' := 24) (ls' := [some (.inr (.inr (r_Nought0, 0))), some (.inl k)]) (st' := [.inl k, .inr (.inr (r_Nought0_lengths, 0))]) (σ' := srl σ []) rfl ?_
          refine wp_iald0 rfl rfl (by omega) ?_
          show en_wp k_X3_isQuadratic 25 [some (.inr (.inr (r_Nought0, 0))), some (.inl k)] [.inl (σ r_Nought0_lengths k)] (srl σ []) _
          refine wp_run 1 (pc' := 26) (ls' := [some (.inr (.inr (r_Nought0, 0))), some (.inl k)]) (st' := [.inl 2, .inl (σ r_Nought0_lengths k)]) (σ' := srl σ []) rfl ?_
          refine wp_ic_eq rfl (by omega) (by omega) (fun h_3 => ?_) (fun h_3 => ?_)
          · show en_wp k_X3_isQuadratic 31 [some (.inr (.inr (r_Nought0, 0))), some (.inl k)] [] (srl σ []) _
            refine wp_run 2 (pc' := 2) (ls' := [some (.inr (.inr (r_Nought0, 0))), some (.inl (k + 1))]) (st' := []) (σ' := srl σ []) rfl ?_
            exact ih_2 (k + 1) (by omega) (by intro j h3 h4; rcases Int.lt_or_eq_of_le (show j ≤ k by omega) with h9 | h9 <;> first | exact hq j h3 h9 | (rw [h9]; omega)) (by omega)
          · show en_wp k_X3_isQuadratic 29 [some (.inr (.inr (r_Nought0, 0))), some (.inl k)] [] (srl σ []) _
            refine wp_run 1 (pc' := 30) (ls' := [some (.inr (.inr (r_Nought0, 0))), some (.inl k)]) (st' := [.inl 0]) (σ' := srl σ []) rfl ?_
            exact wp_zret rfl (.inl rfl) ⟨0, rfl, srl_eq (l' := []) trivial trivial, (.inr ⟨rfl, by intro h9; have h8 := h9 k (by omega) (by omega); omega⟩)⟩
  refine wp_run 2 (pc' := 2) (ls' := [some (.inr (.inr (r_Nought0, 0))), some (.inl 0)]) (st' := []) (σ' := srl σ []) rfl ?_
  exact L_2 _ 0 (by omega) (by intro j h3 h4; omega) (Nat.lt_succ_self _)
theorem ct_X3_isQuadratic_Nought1 (σ : en_m) (h1 : 0 ≤ (σ r_Nought1_lawsNow) 0 ∧ (σ r_Nought1_lawsNow) 0 ≤ 8) (h2 : ∀ k : Int, i32 ((σ r_Nought1_lengths) k)) : en_ct z_X3_isQuadratic [.inr (.inr (r_Nought1, 0))] σ (fun r σ' => ∃ (rr : Int), r = some (.inl rr) ∧ σ' = srl σ [] ∧ ((rr = 1 ∧ (∀ k : Int, 0 ≤ k → k < (σ r_Nought1_lawsNow) 0 → (σ r_Nought1_lengths) k = 0 ∨ (σ r_Nought1_lengths) k = 2)) ∨ (rr = 0 ∧ ¬ (∀ k : Int, 0 ≤ k → k < (σ r_Nought1_lawsNow) 0 → (σ r_Nought1_lengths) k = 0 ∨ (σ r_Nought1_lengths) k = 2)))) := by
  show en_wp k_X3_isQuadratic 0 [some (.inr (.inr (r_Nought1, 0))), none] [] (srl σ []) (fun r σ' => ∃ (rr : Int), r = some (.inl rr) ∧ σ' = srl σ [] ∧ ((rr = 1 ∧ (∀ k : Int, 0 ≤ k → k < (σ r_Nought1_lawsNow) 0 → (σ r_Nought1_lengths) k = 0 ∨ (σ r_Nought1_lengths) k = 2)) ∨ (rr = 0 ∧ ¬ (∀ k : Int, 0 ≤ k → k < (σ r_Nought1_lawsNow) 0 → (σ r_Nought1_lengths) k = 0 ∨ (σ r_Nought1_lengths) k = 2))))
  have L_2 : ∀ (N : Nat) (k : Int), (0 ≤ k ∧ k ≤ σ r_Nought1_lawsNow 0) → (∀ j : Int, 0 ≤ j → j < k → σ r_Nought1_lengths j = 0 ∨ σ r_Nought1_lengths j = 2) → (σ r_Nought1_lawsNow 0 - k).toNat < N → en_wp k_X3_isQuadratic 2 [some (.inr (.inr (r_Nought1, 0))), some (.inl k)] [] (srl σ []) (fun r σ' => ∃ (rr : Int), r = some (.inl rr) ∧ σ' = srl σ [] ∧ ((rr = 1 ∧ (∀ k : Int, 0 ≤ k → k < (σ r_Nought1_lawsNow) 0 → (σ r_Nought1_lengths) k = 0 ∨ (σ r_Nought1_lengths) k = 2)) ∨ (rr = 0 ∧ ¬ (∀ k : Int, 0 ≤ k → k < (σ r_Nought1_lawsNow) 0 → (σ r_Nought1_lengths) k = 0 ∨ (σ r_Nought1_lengths) k = 2)))) := by
    intro N
    induction N with
    | zero => intro k; intros; omega
    | succ N ih_2 =>
      intro k hk hq hN_2
      refine wp_run 3 (pc' := 7) (ls' := [some (.inr (.inr (r_Nought1, 0))), some (.inl k)]) (st' := [.inl (σ r_Nought1_lawsNow 0), .inl k]) (σ' := srl σ []) rfl ?_
      refine wp_ic_ge rfl (by omega) (by omega) (fun h_1 => ?_) (fun h_1 => ?_)
      · show en_wp k_X3_isQuadratic 37 [some (.inr (.inr (r_Nought1, 0))), some (.inl k)] [] (srl σ []) _
        refine wp_run 1 (pc' := 38) (ls' := [some (.inr (.inr (r_Nought1, 0))), some (.inl k)]) (st' := [.inl 1]) (σ' := srl σ []) rfl ?_
        exact wp_zret rfl (.inr rfl) ⟨1, rfl, srl_eq (l' := []) trivial trivial, (.inl ⟨rfl, by intro j h3 h4; exact hq j h3 (by omega)⟩)⟩
      · show en_wp k_X3_isQuadratic 10 [some (.inr (.inr (r_Nought1, 0))), some (.inl k)] [] (srl σ []) _
        refine wp_run 3 (pc' := 15) (ls' := [some (.inr (.inr (r_Nought1, 0))), some (.inl k)]) (st' := [.inl k, .inr (.inr (r_Nought1_lengths, 0))]) (σ' := srl σ []) rfl ?_
        have hx := h2 k
        refine wp_iald0 rfl rfl (by omega) ?_
        show en_wp k_X3_isQuadratic 16 [some (.inr (.inr (r_Nought1, 0))), some (.inl k)] [.inl (σ r_Nought1_lengths k)] (srl σ []) _
        refine wp_if_eq rfl (by omega) (fun h_2 => ?_) (fun h_2 => ?_)
        · show en_wp k_X3_isQuadratic 31 [some (.inr (.inr (r_Nought1, 0))), some (.inl k)] [] (srl σ []) _
          refine wp_run 2 (pc' := 2) (ls' := [some (.inr (.inr (r_Nought1, 0))), some (.inl (k + 1))]) (st' := []) (σ' := srl σ []) rfl ?_
          exact ih_2 (k + 1) (by omega) (by intro j h3 h4; rcases Int.lt_or_eq_of_le (show j ≤ k by omega) with h9 | h9 <;> first | exact hq j h3 h9 | (rw [h9]; omega)) (by omega)
        · show en_wp k_X3_isQuadratic 19 [some (.inr (.inr (r_Nought1, 0))), some (.inl k)] [] (srl σ []) _
          refine wp_run 3 (pc' := 24) (ls' := [some (.inr (.inr (r_Nought1, 0))), some (.inl k)]) (st' := [.inl k, .inr (.inr (r_Nought1_lengths, 0))]) (σ' := srl σ []) rfl ?_
          refine wp_iald0 rfl rfl (by omega) ?_
          show en_wp k_X3_isQuadratic 25 [some (.inr (.inr (r_Nought1, 0))), some (.inl k)] [.inl (σ r_Nought1_lengths k)] (srl σ []) _
          refine wp_run 1 (pc' := 26) (ls' := [some (.inr (.inr (r_Nought1, 0))), some (.inl k)]) (st' := [.inl 2, .inl (σ r_Nought1_lengths k)]) (σ' := srl σ []) rfl ?_
          refine wp_ic_eq rfl (by omega) (by omega) (fun h_3 => ?_) (fun h_3 => ?_)
          · show en_wp k_X3_isQuadratic 31 [some (.inr (.inr (r_Nought1, 0))), some (.inl k)] [] (srl σ []) _
            refine wp_run 2 (pc' := 2) (ls' := [some (.inr (.inr (r_Nought1, 0))), some (.inl (k + 1))]) (st' := []) (σ' := srl σ []) rfl ?_
            exact ih_2 (k + 1) (by omega) (by intro j h3 h4; rcases Int.lt_or_eq_of_le (show j ≤ k by omega) with h9 | h9 <;> first | exact hq j h3 h9 | (rw [h9]; omega)) (by omega)
          · show en_wp k_X3_isQuadratic 29 [some (.inr (.inr (r_Nought1, 0))), some (.inl k)] [] (srl σ []) _
            refine wp_run 1 (pc' := 30) (ls' := [some (.inr (.inr (r_Nought1, 0))), some (.inl k)]) (st' := [.inl 0]) (σ' := srl σ []) rfl ?_
            exact wp_zret rfl (.inl rfl) ⟨0, rfl, srl_eq (l' := []) trivial trivial, (.inr ⟨rfl, by intro h9; have h8 := h9 k (by omega) (by omega); omega⟩)⟩
  refine wp_run 2 (pc' := 2) (ls' := [some (.inr (.inr (r_Nought1, 0))), some (.inl 0)]) (st' := []) (σ' := srl σ []) rfl ?_
  exact L_2 _ 0 (by omega) (by intro j h3 h4; omega) (Nat.lt_succ_self _)
