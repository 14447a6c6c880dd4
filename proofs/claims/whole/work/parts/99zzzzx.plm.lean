/-! contracts of methods, walked (written by wip/whole/walk.py from the annotations ann_m92) -/
theorem ct_X12_place (σ : en_m) : en_fn z_X12_place [.inr (.inr (r_Md, 0))] σ (.inl ((σ r_Md_place) 0)) := by
  show en_wp k_X12_place 0 [some (.inr (.inr (r_Md, 0)))] [] (srl σ []) (fun r σ' => r = some (.inl ((σ r_Md_place) 0)) ∧ σ' = σ)
  refine wp_run 2 (pc' := 4) (ls' := [some (.inr (.inr (r_Md, 0)))]) (st' := [.inl (σ r_Md_place 0)]) (σ' := srl σ []) rfl ?_
  exact wp_iret rfl ⟨rfl, rfl⟩
