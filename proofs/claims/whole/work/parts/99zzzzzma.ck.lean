/-! the constructors' tables checked (1) -/
set_option maxRecDepth 1000000 in
set_option maxHeartbeats 4000000 in
theorem ci_k1 : (List.range 7).all (fun z => (ci_T z).all (ci_chk z)) = true := by decide +kernel
