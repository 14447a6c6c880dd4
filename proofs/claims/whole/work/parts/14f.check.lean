/-! the tables checked: methods 240 .. 249 -/
set_option maxRecDepth 1000000 in
set_option maxHeartbeats 4000000 in
theorem ck_24 : (List.range 5).all (fun i => (en_T (240 + i)).all (en_chk (240 + i))) = true := by decide +kernel
set_option maxRecDepth 1000000 in
set_option maxHeartbeats 4000000 in
theorem cm_24 : (List.range 5).all (fun i => en_mchk (240 + i)) = true := by decide +kernel
set_option maxRecDepth 1000000 in
set_option maxHeartbeats 4000000 in
theorem ck_25 : (List.range 5).all (fun i => (en_T (245 + i)).all (en_chk (245 + i))) = true := by decide +kernel
set_option maxRecDepth 1000000 in
set_option maxHeartbeats 4000000 in
theorem cm_25 : (List.range 5).all (fun i => en_mchk (245 + i)) = true := by decide +kernel
