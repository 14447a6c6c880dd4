/-! the tables checked: methods 140 .. 179 -/
set_option maxRecDepth 1000000 in
set_option maxHeartbeats 4000000 in
theorem ck_14 : (List.range 10).all (fun i => (en_T (140 + i)).all (en_chk (140 + i))) = true := by decide +kernel
set_option maxRecDepth 1000000 in
set_option maxHeartbeats 4000000 in
theorem cm_14 : (List.range 10).all (fun i => en_mchk (140 + i)) = true := by decide +kernel
set_option maxRecDepth 1000000 in
set_option maxHeartbeats 4000000 in
theorem ck_15 : (List.range 10).all (fun i => (en_T (150 + i)).all (en_chk (150 + i))) = true := by decide +kernel
set_option maxRecDepth 1000000 in
set_option maxHeartbeats 4000000 in
theorem cm_15 : (List.range 10).all (fun i => en_mchk (150 + i)) = true := by decide +kernel
set_option maxRecDepth 1000000 in
set_option maxHeartbeats 4000000 in
theorem ck_16 : (List.range 10).all (fun i => (en_T (160 + i)).all (en_chk (160 + i))) = true := by decide +kernel
set_option maxRecDepth 1000000 in
set_option maxHeartbeats 4000000 in
theorem cm_16 : (List.range 10).all (fun i => en_mchk (160 + i)) = true := by decide +kernel
set_option maxRecDepth 1000000 in
set_option maxHeartbeats 4000000 in
theorem ck_17 : (List.range 10).all (fun i => (en_T (170 + i)).all (en_chk (170 + i))) = true := by decide +kernel
set_option maxRecDepth 1000000 in
set_option maxHeartbeats 4000000 in
theorem cm_17 : (List.range 10).all (fun i => en_mchk (170 + i)) = true := by decide +kernel
