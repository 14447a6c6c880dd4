/-! the constructors' tables checked (4) -/
set_option maxRecDepth 1000000 in
set_option maxHeartbeats 4000000 in
theorem ci_k4 : (List.range 7).all ci_mchk = true := by decide +kernel
