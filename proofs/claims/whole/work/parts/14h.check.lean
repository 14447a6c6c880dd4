/-! the tables checked: methods 280 .. 299 -/
set_option maxRecDepth 1000000 in
set_option maxHeartbeats 4000000 in
theorem ck_28 : (List.range 10).all (fun i => (en_T (280 + i)).all (en_chk (280 + i))) = true := by decide +kernel
set_option maxRecDepth 1000000 in
set_option maxHeartbeats 4000000 in
theorem cm_28 : (List.range 10).all (fun i => en_mchk (280 + i)) = true := by decide +kernel
set_option maxRecDepth 1000000 in
set_option maxHeartbeats 4000000 in
theorem ck_29 : (List.range 10).all (fun i => (en_T (290 + i)).all (en_chk (290 + i))) = true := by decide +kernel
set_option maxRecDepth 1000000 in
set_option maxHeartbeats 4000000 in
theorem cm_29 : (List.range 10).all (fun i => en_mchk (290 + i)) = true := by decide +kernel
