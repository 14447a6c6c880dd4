/-! the tables checked: methods 300 .. 319 -/
set_option maxRecDepth 1000000 in
set_option maxHeartbeats 4000000 in
theorem ck_30 : (List.range 10).all (fun i => (en_T (300 + i)).all (en_chk (300 + i))) = true := by decide +kernel
set_option maxRecDepth 1000000 in
set_option maxHeartbeats 4000000 in
theorem cm_30 : (List.range 10).all (fun i => en_mchk (300 + i)) = true := by decide +kernel
set_option maxRecDepth 1000000 in
set_option maxHeartbeats 4000000 in
theorem ck_31 : (List.range 10).all (fun i => (en_T (310 + i)).all (en_chk (310 + i))) = true := by decide +kernel
set_option maxRecDepth 1000000 in
set_option maxHeartbeats 4000000 in
theorem cm_31 : (List.range 10).all (fun i => en_mchk (310 + i)) = true := by decide +kernel
