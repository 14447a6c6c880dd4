/-! the constructors' tables checked (7) -/
set_option maxRecDepth 1000000 in
set_option maxHeartbeats 4000000 in
theorem ci_k7 : (List.range 1).all (fun z => ci_mchk (12 + z)) = true := by decide +kernel
