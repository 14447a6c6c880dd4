/-! the tables checked: methods 260 .. 279 -/
set_option maxRecDepth 1000000 in
set_option maxHeartbeats 4000000 in
theorem ck_26 : (List.range 10).all (fun i => (en_T (260 + i)).all (en_chk (260 + i))) = true := by decide +kernel
set_option maxRecDepth 1000000 in
set_option maxHeartbeats 4000000 in
theorem cm_26 : (List.range 10).all (fun i => en_mchk (260 + i)) = true := by decide +kernel
set_option maxRecDepth 1000000 in
set_option maxHeartbeats 4000000 in
theorem ck_27 : (List.range 10).all (fun i => (en_T (270 + i)).all (en_chk (270 + i))) = true := by decide +kernel
set_option maxRecDepth 1000000 in
set_option maxHeartbeats 4000000 in
theorem cm_27 : (List.range 10).all (fun i => en_mchk (270 + i)) = true := by decide +kernel
