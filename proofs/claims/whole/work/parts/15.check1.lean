/-! the tables checked: methods 120 .. 239 -/
set_option maxRecDepth 1000000 in
set_option maxHeartbeats 4000000 in
theorem ck_6 : (List.range 20).all (fun i => (en_T (120 + i)).all (en_chk (120 + i))) = true := by decide +kernel
set_option maxRecDepth 1000000 in
set_option maxHeartbeats 4000000 in
theorem cm_6 : (List.range 20).all (fun i => en_mchk (120 + i)) = true := by decide +kernel
set_option maxRecDepth 1000000 in
set_option maxHeartbeats 4000000 in
theorem ck_7 : (List.range 20).all (fun i => (en_T (140 + i)).all (en_chk (140 + i))) = true := by decide +kernel
set_option maxRecDepth 1000000 in
set_option maxHeartbeats 4000000 in
theorem cm_7 : (List.range 20).all (fun i => en_mchk (140 + i)) = true := by decide +kernel
set_option maxRecDepth 1000000 in
set_option maxHeartbeats 4000000 in
theorem ck_8 : (List.range 20).all (fun i => (en_T (160 + i)).all (en_chk (160 + i))) = true := by decide +kernel
set_option maxRecDepth 1000000 in
set_option maxHeartbeats 4000000 in
theorem cm_8 : (List.range 20).all (fun i => en_mchk (160 + i)) = true := by decide +kernel
set_option maxRecDepth 1000000 in
set_option maxHeartbeats 4000000 in
theorem ck_9 : (List.range 20).all (fun i => (en_T (180 + i)).all (en_chk (180 + i))) = true := by decide +kernel
set_option maxRecDepth 1000000 in
set_option maxHeartbeats 4000000 in
theorem cm_9 : (List.range 20).all (fun i => en_mchk (180 + i)) = true := by decide +kernel
set_option maxRecDepth 1000000 in
set_option maxHeartbeats 4000000 in
theorem ck_10 : (List.range 20).all (fun i => (en_T (200 + i)).all (en_chk (200 + i))) = true := by decide +kernel
set_option maxRecDepth 1000000 in
set_option maxHeartbeats 4000000 in
theorem cm_10 : (List.range 20).all (fun i => en_mchk (200 + i)) = true := by decide +kernel
set_option maxRecDepth 1000000 in
set_option maxHeartbeats 4000000 in
theorem ck_11 : (List.range 20).all (fun i => (en_T (220 + i)).all (en_chk (220 + i))) = true := by decide +kernel
set_option maxRecDepth 1000000 in
set_option maxHeartbeats 4000000 in
theorem cm_11 : (List.range 20).all (fun i => en_mchk (220 + i)) = true := by decide +kernel
