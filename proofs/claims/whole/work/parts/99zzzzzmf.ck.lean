/-! the constructors' tables checked (6) -/
set_option maxRecDepth 1000000 in
set_option maxHeartbeats 4000000 in
theorem ci_k6 : (List.range 2).all (fun z => ci_mchk (10 + z)) = true := by decide +kernel
