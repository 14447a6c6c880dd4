/-! the tables checked: methods 100 .. 139 -/
set_option maxRecDepth 1000000 in
set_option maxHeartbeats 4000000 in
theorem ck_10 : (List.range 10).all (fun i => (en_T (100 + i)).all (en_chk (100 + i))) = true := by decide +kernel
set_option maxRecDepth 1000000 in
set_option maxHeartbeats 4000000 in
theorem cm_10 : (List.range 10).all (fun i => en_mchk (100 + i)) = true := by decide +kernel
set_option maxRecDepth 1000000 in
set_option maxHeartbeats 4000000 in
theorem ck_11 : (List.range 10).all (fun i => (en_T (110 + i)).all (en_chk (110 + i))) = true := by decide +kernel
set_option maxRecDepth 1000000 in
set_option maxHeartbeats 4000000 in
theorem cm_11 : (List.range 10).all (fun i => en_mchk (110 + i)) = true := by decide +kernel
set_option maxRecDepth 1000000 in
set_option maxHeartbeats 4000000 in
theorem ck_12 : (List.range 10).all (fun i => (en_T (120 + i)).all (en_chk (120 + i))) = true := by decide +kernel
set_option maxRecDepth 1000000 in
set_option maxHeartbeats 4000000 in
theorem cm_12 : (List.range 10).all (fun i => en_mchk (120 + i)) = true := by decide +kernel
set_option maxRecDepth 1000000 in
set_option maxHeartbeats 4000000 in
theorem ck_13 : (List.range 10).all (fun i => (en_T (130 + i)).all (en_chk (130 + i))) = true := by decide +kernel
set_option maxRecDepth 1000000 in
set_option maxHeartbeats 4000000 in
theorem cm_13 : (List.range 10).all (fun i => en_mchk (130 + i)) = true := by decide +kernel
