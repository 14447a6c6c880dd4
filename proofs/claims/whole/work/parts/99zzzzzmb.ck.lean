/-! the constructors' tables checked (2) -/
set_option maxRecDepth 1000000 in
set_option maxHeartbeats 4000000 in
theorem ci_k2 : (List.range 5).all (fun z => (ci_T (7 + z)).all (ci_chk (7 + z))) = true := by decide +kernel
