/-! the tables checked: methods 280 .. 294 -/
set_option maxRecDepth 1000000 in
set_option maxHeartbeats 4000000 in
theorem ck_32 : (List.range 5).all (fun i => (en_T (280 + i)).all (en_chk (280 + i))) = true := by decide +kernel
set_option maxRecDepth 1000000 in
set_option maxHeartbeats 4000000 in
theorem cm_32 : (List.range 5).all (fun i => en_mchk (280 + i)) = true := by decide +kernel
set_option maxRecDepth 1000000 in
set_option maxHeartbeats 4000000 in
theorem ck_33 : (List.range 5).all (fun i => (en_T (285 + i)).all (en_chk (285 + i))) = true := by decide +kernel
set_option maxRecDepth 1000000 in
set_option maxHeartbeats 4000000 in
theorem cm_33 : (List.range 5).all (fun i => en_mchk (285 + i)) = true := by decide +kernel
set_option maxRecDepth 1000000 in
set_option maxHeartbeats 4000000 in
theorem ck_34 : (List.range 5).all (fun i => (en_T (290 + i)).all (en_chk (290 + i))) = true := by decide +kernel
set_option maxRecDepth 1000000 in
set_option maxHeartbeats 4000000 in
theorem cm_34 : (List.range 5).all (fun i => en_mchk (290 + i)) = true := by decide +kernel
