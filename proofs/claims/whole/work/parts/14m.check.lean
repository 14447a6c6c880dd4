/-! the tables checked: methods 305 .. 309 -/
set_option maxRecDepth 1000000 in
set_option maxHeartbeats 4000000 in
theorem ck_37 : (List.range 5).all (fun i => (en_T (305 + i)).all (en_chk (305 + i))) = true := by decide +kernel
set_option maxRecDepth 1000000 in
set_option maxHeartbeats 4000000 in
theorem cm_37 : (List.range 5).all (fun i => en_mchk (305 + i)) = true := by decide +kernel
