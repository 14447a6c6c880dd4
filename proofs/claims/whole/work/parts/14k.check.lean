/-! the tables checked: methods 295 .. 299 -/
set_option maxRecDepth 1000000 in
set_option maxHeartbeats 4000000 in
theorem ck_35 : (List.range 5).all (fun i => (en_T (295 + i)).all (en_chk (295 + i))) = true := by decide +kernel
set_option maxRecDepth 1000000 in
set_option maxHeartbeats 4000000 in
theorem cm_35 : (List.range 5).all (fun i => en_mchk (295 + i)) = true := by decide +kernel
