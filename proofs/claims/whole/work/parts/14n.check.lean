/-! the tables checked: methods 310 .. 314 -/
set_option maxRecDepth 1000000 in
set_option maxHeartbeats 4000000 in
theorem ck_38 : (List.range 5).all (fun i => (en_T (310 + i)).all (en_chk (310 + i))) = true := by decide +kernel
set_option maxRecDepth 1000000 in
set_option maxHeartbeats 4000000 in
theorem cm_38 : (List.range 5).all (fun i => en_mchk (310 + i)) = true := by decide +kernel
