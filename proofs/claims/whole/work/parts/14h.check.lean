/-! the tables checked: methods 255 .. 264 -/
set_option maxRecDepth 1000000 in
set_option maxHeartbeats 4000000 in
theorem ck_27 : (List.range 5).all (fun i => (en_T (255 + i)).all (en_chk (255 + i))) = true := by decide +kernel
set_option maxRecDepth 1000000 in
set_option maxHeartbeats 4000000 in
theorem cm_27 : (List.range 5).all (fun i => en_mchk (255 + i)) = true := by decide +kernel
set_option maxRecDepth 1000000 in
set_option maxHeartbeats 4000000 in
theorem ck_28 : (List.range 5).all (fun i => (en_T (260 + i)).all (en_chk (260 + i))) = true := by decide +kernel
set_option maxRecDepth 1000000 in
set_option maxHeartbeats 4000000 in
theorem cm_28 : (List.range 5).all (fun i => en_mchk (260 + i)) = true := by decide +kernel
