/-! a bound asked of a number that may lie beyond 32 bits -/
theorem wp_iw_lt {c : en_c} {pc p0 len a b j : Nat} {x off : Int} {ls : en_l} {st : List en_v} {σ : en_m} {Q : Option en_v → en_m → Prop} {u v : Int} (hq : en_at c pc = some (p0, .if_icmp .lt off, len, a, b, j, x)) (hv : i32 v) (kt : w32 u < v → en_wp c a ls st σ Q) (kf : ¬ w32 u < v → en_wp c (p0 + len) ls st σ Q) : en_wp c pc ls (.inl v :: .inl u :: st) σ Q := by
  by_cases h : w32 u < v
  · exact wp_st hq (x := (a, ls, st, σ)) (by simp [en_st, en_cmp, w32_of hv, h]) (kt h)
  · exact wp_st hq (x := (p0 + len, ls, st, σ)) (by simp [en_st, en_cmp, w32_of hv, h]) (kf h)
theorem wp_iw_gt {c : en_c} {pc p0 len a b j : Nat} {x off : Int} {ls : en_l} {st : List en_v} {σ : en_m} {Q : Option en_v → en_m → Prop} {u v : Int} (hq : en_at c pc = some (p0, .if_icmp .gt off, len, a, b, j, x)) (hv : i32 v) (kt : v < w32 u → en_wp c a ls st σ Q) (kf : ¬ v < w32 u → en_wp c (p0 + len) ls st σ Q) : en_wp c pc ls (.inl v :: .inl u :: st) σ Q := by
  by_cases h : v < w32 u
  · exact wp_st hq (x := (a, ls, st, σ)) (by simp [en_st, en_cmp, w32_of hv, h]) (kt h)
  · exact wp_st hq (x := (p0 + len, ls, st, σ)) (by simp [en_st, en_cmp, w32_of hv, h]) (kf h)
theorem ct_X12_in_w (σ : en_m) (v : Int) (lo : Int) (hi : Int) (h2 : i32 lo) (h3 : i32 hi) : en_fn z_X12_in [.inl v, .inl lo, .inl hi] σ (.inl (bI (lo ≤ w32 v ∧ w32 v ≤ hi))) := by
  show en_wp k_X12_in 0 [some (.inl v), some (.inl lo), some (.inl hi)] [] (srl σ []) (fun r σ' => r = some (.inl (bI (lo ≤ w32 v ∧ w32 v ≤ hi))) ∧ σ' = σ)
  refine wp_run 2 (pc' := 2) (ls' := [some (.inl v), some (.inl lo), some (.inl hi)]) (st' := [.inl lo, .inl v]) (σ' := srl σ []) rfl ?_
  refine wp_iw_lt rfl h2 (fun h_1 => ?_) (fun h_1 => ?_)
  · show en_wp k_X12_in 14 [some (.inl v), some (.inl lo), some (.inl hi)] [] (srl σ []) _
    refine wp_run 1 (pc' := 15) (ls' := [some (.inl v), some (.inl lo), some (.inl hi)]) (st' := [.inl 0]) (σ' := srl σ []) rfl ?_
    exact wp_zret rfl (.inl rfl) ⟨(by rw [bI_f (by omega)]), rfl⟩
  · show en_wp k_X12_in 5 [some (.inl v), some (.inl lo), some (.inl hi)] [] (srl σ []) _
    refine wp_run 2 (pc' := 7) (ls' := [some (.inl v), some (.inl lo), some (.inl hi)]) (st' := [.inl hi, .inl v]) (σ' := srl σ []) rfl ?_
    refine wp_iw_gt rfl h3 (fun h_2 => ?_) (fun h_2 => ?_)
    · show en_wp k_X12_in 14 [some (.inl v), some (.inl lo), some (.inl hi)] [] (srl σ []) _
      refine wp_run 1 (pc' := 15) (ls' := [some (.inl v), some (.inl lo), some (.inl hi)]) (st' := [.inl 0]) (σ' := srl σ []) rfl ?_
      exact wp_zret rfl (.inl rfl) ⟨(by rw [bI_f (by omega)]), rfl⟩
    · show en_wp k_X12_in 10 [some (.inl v), some (.inl lo), some (.inl hi)] [] (srl σ []) _
      refine wp_run 2 (pc' := 15) (ls' := [some (.inl v), some (.inl lo), some (.inl hi)]) (st' := [.inl 1]) (σ' := srl σ []) rfl ?_
      exact wp_zret rfl (.inr rfl) ⟨(by rw [bI_t (by omega)]), rfl⟩
theorem in_w {w : Int} (h : i32 w) : w32 (w - 10) = w - 10 ∨ (w < -1000 ∧ 1000 < w32 (w - 10)) := by
  unfold i32 at h
  unfold w32
  rw [Int.bmod_def]
  split <;> omega
