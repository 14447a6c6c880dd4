
theorem te_wide (σ : en_m) (d : Int) (Q : Option en_v → en_m → Prop) (K : en_wp k_X12_wide 13 [some (.inr (.inr (r_Md, 0))), some (.inl d)] [.inl (9 * σ r_Md_live 0 + d), .inr (.inr (r_Md_powers, 0))] σ Q) : en_wp k_X12_wide 0 [some (.inr (.inr (r_Md, 0))), some (.inl d)] [] σ Q := wp_run 7 rfl K
theorem te_wide2 (σ : en_m) (d : Int) (h : 0 ≤ 9 * σ r_Md_live 0 + d ∧ 9 * σ r_Md_live 0 + d < 18) : en_fn z_X12_wide [.inr (.inr (r_Md, 0)), .inl d] σ (.inl (σ r_Md_powers (9 * σ r_Md_live 0 + d))) := by
  show en_wp k_X12_wide 0 [some (.inr (.inr (r_Md, 0))), some (.inl d)] [] σ _
  refine wp_run 7 (pc' := 13) (ls' := [some (.inr (.inr (r_Md, 0))), some (.inl d)]) (st' := [.inl (9 * σ r_Md_live 0 + d), .inr (.inr (r_Md_powers, 0))]) (σ' := σ) rfl ?_
  refine wp_iald0 rfl rfl h ?_
  exact wp_iret rfl ⟨rfl, rfl⟩
