/-! the tables checked: methods 220 .. 239 -/
set_option maxRecDepth 1000000 in
set_option maxHeartbeats 4000000 in
theorem ck_22 : (List.range 10).all (fun i => (en_T (220 + i)).all (en_chk (220 + i))) = true := by decide +kernel
set_option maxRecDepth 1000000 in
set_option maxHeartbeats 4000000 in
theorem cm_22 : (List.range 10).all (fun i => en_mchk (220 + i)) = true := by decide +kernel
set_option maxRecDepth 1000000 in
set_option maxHeartbeats 4000000 in
theorem ck_23 : (List.range 10).all (fun i => (en_T (230 + i)).all (en_chk (230 + i))) = true := by decide +kernel
set_option maxRecDepth 1000000 in
set_option maxHeartbeats 4000000 in
theorem cm_23 : (List.range 10).all (fun i => en_mchk (230 + i)) = true := by decide +kernel
