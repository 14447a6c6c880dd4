/-! the tables checked: methods 180 .. 219 -/
set_option maxRecDepth 1000000 in
set_option maxHeartbeats 4000000 in
theorem ck_18 : (List.range 10).all (fun i => (en_T (180 + i)).all (en_chk (180 + i))) = true := by decide +kernel
set_option maxRecDepth 1000000 in
set_option maxHeartbeats 4000000 in
theorem cm_18 : (List.range 10).all (fun i => en_mchk (180 + i)) = true := by decide +kernel
set_option maxRecDepth 1000000 in
set_option maxHeartbeats 4000000 in
theorem ck_19 : (List.range 10).all (fun i => (en_T (190 + i)).all (en_chk (190 + i))) = true := by decide +kernel
set_option maxRecDepth 1000000 in
set_option maxHeartbeats 4000000 in
theorem cm_19 : (List.range 10).all (fun i => en_mchk (190 + i)) = true := by decide +kernel
set_option maxRecDepth 1000000 in
set_option maxHeartbeats 4000000 in
theorem ck_20 : (List.range 10).all (fun i => (en_T (200 + i)).all (en_chk (200 + i))) = true := by decide +kernel
set_option maxRecDepth 1000000 in
set_option maxHeartbeats 4000000 in
theorem cm_20 : (List.range 10).all (fun i => en_mchk (200 + i)) = true := by decide +kernel
set_option maxRecDepth 1000000 in
set_option maxHeartbeats 4000000 in
theorem ck_21 : (List.range 10).all (fun i => (en_T (210 + i)).all (en_chk (210 + i))) = true := by decide +kernel
set_option maxRecDepth 1000000 in
set_option maxHeartbeats 4000000 in
theorem cm_21 : (List.range 10).all (fun i => en_mchk (210 + i)) = true := by decide +kernel
