/-! the tables checked: methods 0 .. 99 -/
set_option maxRecDepth 1000000 in
set_option maxHeartbeats 4000000 in
theorem ck_0 : (List.range 10).all (fun i => (en_T (0 + i)).all (en_chk (0 + i))) = true := by decide +kernel
set_option maxRecDepth 1000000 in
set_option maxHeartbeats 4000000 in
theorem cm_0 : (List.range 10).all (fun i => en_mchk (0 + i)) = true := by decide +kernel
set_option maxRecDepth 1000000 in
set_option maxHeartbeats 4000000 in
theorem ck_1 : (List.range 10).all (fun i => (en_T (10 + i)).all (en_chk (10 + i))) = true := by decide +kernel
set_option maxRecDepth 1000000 in
set_option maxHeartbeats 4000000 in
theorem cm_1 : (List.range 10).all (fun i => en_mchk (10 + i)) = true := by decide +kernel
set_option maxRecDepth 1000000 in
set_option maxHeartbeats 4000000 in
theorem ck_2 : (List.range 10).all (fun i => (en_T (20 + i)).all (en_chk (20 + i))) = true := by decide +kernel
set_option maxRecDepth 1000000 in
set_option maxHeartbeats 4000000 in
theorem cm_2 : (List.range 10).all (fun i => en_mchk (20 + i)) = true := by decide +kernel
set_option maxRecDepth 1000000 in
set_option maxHeartbeats 4000000 in
theorem ck_3 : (List.range 10).all (fun i => (en_T (30 + i)).all (en_chk (30 + i))) = true := by decide +kernel
set_option maxRecDepth 1000000 in
set_option maxHeartbeats 4000000 in
theorem cm_3 : (List.range 10).all (fun i => en_mchk (30 + i)) = true := by decide +kernel
set_option maxRecDepth 1000000 in
set_option maxHeartbeats 4000000 in
theorem ck_4 : (List.range 10).all (fun i => (en_T (40 + i)).all (en_chk (40 + i))) = true := by decide +kernel
set_option maxRecDepth 1000000 in
set_option maxHeartbeats 4000000 in
theorem cm_4 : (List.range 10).all (fun i => en_mchk (40 + i)) = true := by decide +kernel
set_option maxRecDepth 1000000 in
set_option maxHeartbeats 4000000 in
theorem ck_5 : (List.range 10).all (fun i => (en_T (50 + i)).all (en_chk (50 + i))) = true := by decide +kernel
set_option maxRecDepth 1000000 in
set_option maxHeartbeats 4000000 in
theorem cm_5 : (List.range 10).all (fun i => en_mchk (50 + i)) = true := by decide +kernel
set_option maxRecDepth 1000000 in
set_option maxHeartbeats 4000000 in
theorem ck_6 : (List.range 10).all (fun i => (en_T (60 + i)).all (en_chk (60 + i))) = true := by decide +kernel
set_option maxRecDepth 1000000 in
set_option maxHeartbeats 4000000 in
theorem cm_6 : (List.range 10).all (fun i => en_mchk (60 + i)) = true := by decide +kernel
set_option maxRecDepth 1000000 in
set_option maxHeartbeats 4000000 in
theorem ck_7 : (List.range 10).all (fun i => (en_T (70 + i)).all (en_chk (70 + i))) = true := by decide +kernel
set_option maxRecDepth 1000000 in
set_option maxHeartbeats 4000000 in
theorem cm_7 : (List.range 10).all (fun i => en_mchk (70 + i)) = true := by decide +kernel
set_option maxRecDepth 1000000 in
set_option maxHeartbeats 4000000 in
theorem ck_8 : (List.range 10).all (fun i => (en_T (80 + i)).all (en_chk (80 + i))) = true := by decide +kernel
set_option maxRecDepth 1000000 in
set_option maxHeartbeats 4000000 in
theorem cm_8 : (List.range 10).all (fun i => en_mchk (80 + i)) = true := by decide +kernel
set_option maxRecDepth 1000000 in
set_option maxHeartbeats 4000000 in
theorem ck_9 : (List.range 10).all (fun i => (en_T (90 + i)).all (en_chk (90 + i))) = true := by decide +kernel
set_option maxRecDepth 1000000 in
set_option maxHeartbeats 4000000 in
theorem cm_9 : (List.range 10).all (fun i => en_mchk (90 + i)) = true := by decide +kernel
