/-! the tables checked: methods 300 .. 304 -/
set_option maxRecDepth 1000000 in
set_option maxHeartbeats 4000000 in
theorem ck_36 : (List.range 5).all (fun i => (en_T (300 + i)).all (en_chk (300 + i))) = true := by decide +kernel
set_option maxRecDepth 1000000 in
set_option maxHeartbeats 4000000 in
theorem cm_36 : (List.range 5).all (fun i => en_mchk (300 + i)) = true := by decide +kernel
