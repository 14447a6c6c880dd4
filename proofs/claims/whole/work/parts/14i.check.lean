/-! the tables checked: methods 265 .. 279 -/
set_option maxRecDepth 1000000 in
set_option maxHeartbeats 4000000 in
theorem ck_29 : (List.range 5).all (fun i => (en_T (265 + i)).all (en_chk (265 + i))) = true := by decide +kernel
set_option maxRecDepth 1000000 in
set_option maxHeartbeats 4000000 in
theorem cm_29 : (List.range 5).all (fun i => en_mchk (265 + i)) = true := by decide +kernel
set_option maxRecDepth 1000000 in
set_option maxHeartbeats 4000000 in
theorem ck_30 : (List.range 5).all (fun i => (en_T (270 + i)).all (en_chk (270 + i))) = true := by decide +kernel
set_option maxRecDepth 1000000 in
set_option maxHeartbeats 4000000 in
theorem cm_30 : (List.range 5).all (fun i => en_mchk (270 + i)) = true := by decide +kernel
set_option maxRecDepth 1000000 in
set_option maxHeartbeats 4000000 in
theorem ck_31 : (List.range 5).all (fun i => (en_T (275 + i)).all (en_chk (275 + i))) = true := by decide +kernel
set_option maxRecDepth 1000000 in
set_option maxHeartbeats 4000000 in
theorem cm_31 : (List.range 5).all (fun i => en_mchk (275 + i)) = true := by decide +kernel
