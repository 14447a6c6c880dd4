/-! the tables checked: methods 315 .. 324 -/
set_option maxRecDepth 1000000 in
set_option maxHeartbeats 4000000 in
theorem ck_39 : (List.range 5).all (fun i => (en_T (315 + i)).all (en_chk (315 + i))) = true := by decide +kernel
set_option maxRecDepth 1000000 in
set_option maxHeartbeats 4000000 in
theorem cm_39 : (List.range 5).all (fun i => en_mchk (315 + i)) = true := by decide +kernel
set_option maxRecDepth 1000000 in
set_option maxHeartbeats 4000000 in
theorem ck_40 : (List.range 5).all (fun i => (en_T (320 + i)).all (en_chk (320 + i))) = true := by decide +kernel
set_option maxRecDepth 1000000 in
set_option maxHeartbeats 4000000 in
theorem cm_40 : (List.range 5).all (fun i => en_mchk (320 + i)) = true := by decide +kernel
