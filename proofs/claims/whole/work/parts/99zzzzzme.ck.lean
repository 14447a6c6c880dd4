/-! the constructors' tables checked (5) -/
set_option maxRecDepth 1000000 in
set_option maxHeartbeats 4000000 in
theorem ci_k5 : (List.range 3).all (fun z => ci_mchk (7 + z)) = true := by decide +kernel
