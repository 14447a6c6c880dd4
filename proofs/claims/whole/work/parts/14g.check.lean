/-! the tables checked: methods 250 .. 254 -/
set_option maxRecDepth 1000000 in
set_option maxHeartbeats 4000000 in
theorem ck_26 : (List.range 5).all (fun i => (en_T (250 + i)).all (en_chk (250 + i))) = true := by decide +kernel
set_option maxRecDepth 1000000 in
set_option maxHeartbeats 4000000 in
theorem cm_26 : (List.range 5).all (fun i => en_mchk (250 + i)) = true := by decide +kernel
