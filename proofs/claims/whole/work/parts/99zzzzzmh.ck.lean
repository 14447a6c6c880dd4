/-! the constructors' tables checked (8) -/
set_option maxRecDepth 1000000 in
set_option maxHeartbeats 4000000 in
theorem ci_k8 : (List.range 1).all (fun z => ci_mchk (13 + z)) = true := by decide +kernel
theorem ci_ok : ci_OK := by
  refine ⟨fun z hz q hq => ?_, fun z hz => ?_, en_tb_in ci_wo (by decide +kernel) (by decide +kernel), en_tb_in ci_wc (by decide +kernel) (by decide +kernel)⟩
  · by_cases h1 : z < 7
    · exact List.all_eq_true.mp (List.all_eq_true.mp ci_k1 z (List.mem_range.mpr h1)) q hq
    by_cases h2 : z < 12
    · have := List.all_eq_true.mp ci_k2 (z - 7) (List.mem_range.mpr (by omega))
      rw [show 7 + (z - 7) = z by omega] at this
      exact List.all_eq_true.mp this q hq
    · have := List.all_eq_true.mp ci_k3 (z - 12) (List.mem_range.mpr (by omega))
      rw [show 12 + (z - 12) = z by omega] at this
      exact List.all_eq_true.mp this q hq
  · by_cases h1 : z < 7
    · exact List.all_eq_true.mp ci_k4 z (List.mem_range.mpr h1)
    by_cases h2 : z < 10
    · have := List.all_eq_true.mp ci_k5 (z - 7) (List.mem_range.mpr (by omega))
      rw [show 7 + (z - 7) = z by omega] at this
      exact this
    by_cases h3 : z < 12
    · have := List.all_eq_true.mp ci_k6 (z - 10) (List.mem_range.mpr (by omega))
      rw [show 10 + (z - 10) = z by omega] at this
      exact this
    by_cases h4 : z < 13
    · have := List.all_eq_true.mp ci_k7 (z - 12) (List.mem_range.mpr (by omega))
      rw [show 12 + (z - 12) = z by omega] at this
      exact this
    · have := List.all_eq_true.mp ci_k8 (z - 13) (List.mem_range.mpr (by omega))
      rw [show 13 + (z - 13) = z by omega] at this
      exact this
