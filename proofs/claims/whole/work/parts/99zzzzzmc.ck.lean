/-! the constructors' tables checked (3) -/
set_option maxRecDepth 1000000 in
set_option maxHeartbeats 4000000 in
theorem ci_k3 : (List.range 2).all (fun z => (ci_T (12 + z)).all (ci_chk (12 + z))) = true := by decide +kernel
