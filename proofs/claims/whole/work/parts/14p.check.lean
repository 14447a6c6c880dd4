/-! the tables checked: methods 325 .. 331 -/
set_option maxRecDepth 1000000 in
set_option maxHeartbeats 4000000 in
theorem ck_41 : (List.range 5).all (fun i => (en_T (325 + i)).all (en_chk (325 + i))) = true := by decide +kernel
set_option maxRecDepth 1000000 in
set_option maxHeartbeats 4000000 in
theorem cm_41 : (List.range 5).all (fun i => en_mchk (325 + i)) = true := by decide +kernel
set_option maxRecDepth 1000000 in
set_option maxHeartbeats 4000000 in
theorem ck_42 : (List.range 5).all (fun i => (en_T (330 + i)).all (en_chk (330 + i))) = true := by decide +kernel
set_option maxRecDepth 1000000 in
set_option maxHeartbeats 4000000 in
theorem cm_42 : (List.range 2).all (fun i => en_mchk (330 + i)) = true := by decide +kernel
set_option maxRecDepth 1000000 in
set_option maxHeartbeats 4000000 in
theorem ck_43 : (List.range 5).all (fun i => (en_T (335 + i)).all (en_chk (335 + i))) = true := by decide +kernel
theorem ck_big (z : Nat) (h : 340 ≤ z) : en_T z = [] := by
  unfold en_T
  have h1 : en_Ts.length = 17 := by decide +kernel
  rw [List.getD_eq_getElem?_getD (l := en_Ts), List.getElem?_eq_none (by rw [h1]; omega)]
  rfl
theorem en_ok_all : en_OK := by
  have key : ∀ (c n : Nat) (P : Nat → Bool), (List.range n).all (fun i => P (c + i)) = true → ∀ z, c ≤ z → z < c + n → P z = true := by
    intro c n P h z h1 h2
    have := List.all_eq_true.mp h (z - c) (List.mem_range.mpr (by omega))
    rw [show c + (z - c) = z by omega] at this
    exact this
  refine ⟨fun z q hq => ?_, fun z hz => ?_⟩
  · have h : (en_T z).all (en_chk z) = true := by
      by_cases h0 : z < 10
      · exact key 0 10 (fun z => (en_T z).all (en_chk z)) ck_0 z (by omega) (by omega)
      by_cases h1 : z < 20
      · exact key 10 10 (fun z => (en_T z).all (en_chk z)) ck_1 z (by omega) (by omega)
      by_cases h2 : z < 30
      · exact key 20 10 (fun z => (en_T z).all (en_chk z)) ck_2 z (by omega) (by omega)
      by_cases h3 : z < 40
      · exact key 30 10 (fun z => (en_T z).all (en_chk z)) ck_3 z (by omega) (by omega)
      by_cases h4 : z < 50
      · exact key 40 10 (fun z => (en_T z).all (en_chk z)) ck_4 z (by omega) (by omega)
      by_cases h5 : z < 60
      · exact key 50 10 (fun z => (en_T z).all (en_chk z)) ck_5 z (by omega) (by omega)
      by_cases h6 : z < 70
      · exact key 60 10 (fun z => (en_T z).all (en_chk z)) ck_6 z (by omega) (by omega)
      by_cases h7 : z < 80
      · exact key 70 10 (fun z => (en_T z).all (en_chk z)) ck_7 z (by omega) (by omega)
      by_cases h8 : z < 90
      · exact key 80 10 (fun z => (en_T z).all (en_chk z)) ck_8 z (by omega) (by omega)
      by_cases h9 : z < 100
      · exact key 90 10 (fun z => (en_T z).all (en_chk z)) ck_9 z (by omega) (by omega)
      by_cases h10 : z < 110
      · exact key 100 10 (fun z => (en_T z).all (en_chk z)) ck_10 z (by omega) (by omega)
      by_cases h11 : z < 120
      · exact key 110 10 (fun z => (en_T z).all (en_chk z)) ck_11 z (by omega) (by omega)
      by_cases h12 : z < 130
      · exact key 120 10 (fun z => (en_T z).all (en_chk z)) ck_12 z (by omega) (by omega)
      by_cases h13 : z < 140
      · exact key 130 10 (fun z => (en_T z).all (en_chk z)) ck_13 z (by omega) (by omega)
      by_cases h14 : z < 150
      · exact key 140 10 (fun z => (en_T z).all (en_chk z)) ck_14 z (by omega) (by omega)
      by_cases h15 : z < 160
      · exact key 150 10 (fun z => (en_T z).all (en_chk z)) ck_15 z (by omega) (by omega)
      by_cases h16 : z < 170
      · exact key 160 10 (fun z => (en_T z).all (en_chk z)) ck_16 z (by omega) (by omega)
      by_cases h17 : z < 180
      · exact key 170 10 (fun z => (en_T z).all (en_chk z)) ck_17 z (by omega) (by omega)
      by_cases h18 : z < 190
      · exact key 180 10 (fun z => (en_T z).all (en_chk z)) ck_18 z (by omega) (by omega)
      by_cases h19 : z < 200
      · exact key 190 10 (fun z => (en_T z).all (en_chk z)) ck_19 z (by omega) (by omega)
      by_cases h20 : z < 210
      · exact key 200 10 (fun z => (en_T z).all (en_chk z)) ck_20 z (by omega) (by omega)
      by_cases h21 : z < 220
      · exact key 210 10 (fun z => (en_T z).all (en_chk z)) ck_21 z (by omega) (by omega)
      by_cases h22 : z < 230
      · exact key 220 10 (fun z => (en_T z).all (en_chk z)) ck_22 z (by omega) (by omega)
      by_cases h23 : z < 240
      · exact key 230 10 (fun z => (en_T z).all (en_chk z)) ck_23 z (by omega) (by omega)
      by_cases h24 : z < 245
      · exact key 240 5 (fun z => (en_T z).all (en_chk z)) ck_24 z (by omega) (by omega)
      by_cases h25 : z < 250
      · exact key 245 5 (fun z => (en_T z).all (en_chk z)) ck_25 z (by omega) (by omega)
      by_cases h26 : z < 255
      · exact key 250 5 (fun z => (en_T z).all (en_chk z)) ck_26 z (by omega) (by omega)
      by_cases h27 : z < 260
      · exact key 255 5 (fun z => (en_T z).all (en_chk z)) ck_27 z (by omega) (by omega)
      by_cases h28 : z < 265
      · exact key 260 5 (fun z => (en_T z).all (en_chk z)) ck_28 z (by omega) (by omega)
      by_cases h29 : z < 270
      · exact key 265 5 (fun z => (en_T z).all (en_chk z)) ck_29 z (by omega) (by omega)
      by_cases h30 : z < 275
      · exact key 270 5 (fun z => (en_T z).all (en_chk z)) ck_30 z (by omega) (by omega)
      by_cases h31 : z < 280
      · exact key 275 5 (fun z => (en_T z).all (en_chk z)) ck_31 z (by omega) (by omega)
      by_cases h32 : z < 285
      · exact key 280 5 (fun z => (en_T z).all (en_chk z)) ck_32 z (by omega) (by omega)
      by_cases h33 : z < 290
      · exact key 285 5 (fun z => (en_T z).all (en_chk z)) ck_33 z (by omega) (by omega)
      by_cases h34 : z < 295
      · exact key 290 5 (fun z => (en_T z).all (en_chk z)) ck_34 z (by omega) (by omega)
      by_cases h35 : z < 300
      · exact key 295 5 (fun z => (en_T z).all (en_chk z)) ck_35 z (by omega) (by omega)
      by_cases h36 : z < 305
      · exact key 300 5 (fun z => (en_T z).all (en_chk z)) ck_36 z (by omega) (by omega)
      by_cases h37 : z < 310
      · exact key 305 5 (fun z => (en_T z).all (en_chk z)) ck_37 z (by omega) (by omega)
      by_cases h38 : z < 315
      · exact key 310 5 (fun z => (en_T z).all (en_chk z)) ck_38 z (by omega) (by omega)
      by_cases h39 : z < 320
      · exact key 315 5 (fun z => (en_T z).all (en_chk z)) ck_39 z (by omega) (by omega)
      by_cases h40 : z < 325
      · exact key 320 5 (fun z => (en_T z).all (en_chk z)) ck_40 z (by omega) (by omega)
      by_cases h41 : z < 330
      · exact key 325 5 (fun z => (en_T z).all (en_chk z)) ck_41 z (by omega) (by omega)
      by_cases h42 : z < 335
      · exact key 330 5 (fun z => (en_T z).all (en_chk z)) ck_42 z (by omega) (by omega)
      by_cases h43 : z < 340
      · exact key 335 5 (fun z => (en_T z).all (en_chk z)) ck_43 z (by omega) (by omega)
      rw [ck_big z (by omega)]
      rfl
    exact List.all_eq_true.mp h q hq
  by_cases h0 : z < 10
  · exact key 0 10 en_mchk cm_0 z (by omega) (by omega)
  by_cases h1 : z < 20
  · exact key 10 10 en_mchk cm_1 z (by omega) (by omega)
  by_cases h2 : z < 30
  · exact key 20 10 en_mchk cm_2 z (by omega) (by omega)
  by_cases h3 : z < 40
  · exact key 30 10 en_mchk cm_3 z (by omega) (by omega)
  by_cases h4 : z < 50
  · exact key 40 10 en_mchk cm_4 z (by omega) (by omega)
  by_cases h5 : z < 60
  · exact key 50 10 en_mchk cm_5 z (by omega) (by omega)
  by_cases h6 : z < 70
  · exact key 60 10 en_mchk cm_6 z (by omega) (by omega)
  by_cases h7 : z < 80
  · exact key 70 10 en_mchk cm_7 z (by omega) (by omega)
  by_cases h8 : z < 90
  · exact key 80 10 en_mchk cm_8 z (by omega) (by omega)
  by_cases h9 : z < 100
  · exact key 90 10 en_mchk cm_9 z (by omega) (by omega)
  by_cases h10 : z < 110
  · exact key 100 10 en_mchk cm_10 z (by omega) (by omega)
  by_cases h11 : z < 120
  · exact key 110 10 en_mchk cm_11 z (by omega) (by omega)
  by_cases h12 : z < 130
  · exact key 120 10 en_mchk cm_12 z (by omega) (by omega)
  by_cases h13 : z < 140
  · exact key 130 10 en_mchk cm_13 z (by omega) (by omega)
  by_cases h14 : z < 150
  · exact key 140 10 en_mchk cm_14 z (by omega) (by omega)
  by_cases h15 : z < 160
  · exact key 150 10 en_mchk cm_15 z (by omega) (by omega)
  by_cases h16 : z < 170
  · exact key 160 10 en_mchk cm_16 z (by omega) (by omega)
  by_cases h17 : z < 180
  · exact key 170 10 en_mchk cm_17 z (by omega) (by omega)
  by_cases h18 : z < 190
  · exact key 180 10 en_mchk cm_18 z (by omega) (by omega)
  by_cases h19 : z < 200
  · exact key 190 10 en_mchk cm_19 z (by omega) (by omega)
  by_cases h20 : z < 210
  · exact key 200 10 en_mchk cm_20 z (by omega) (by omega)
  by_cases h21 : z < 220
  · exact key 210 10 en_mchk cm_21 z (by omega) (by omega)
  by_cases h22 : z < 230
  · exact key 220 10 en_mchk cm_22 z (by omega) (by omega)
  by_cases h23 : z < 240
  · exact key 230 10 en_mchk cm_23 z (by omega) (by omega)
  by_cases h24 : z < 245
  · exact key 240 5 en_mchk cm_24 z (by omega) (by omega)
  by_cases h25 : z < 250
  · exact key 245 5 en_mchk cm_25 z (by omega) (by omega)
  by_cases h26 : z < 255
  · exact key 250 5 en_mchk cm_26 z (by omega) (by omega)
  by_cases h27 : z < 260
  · exact key 255 5 en_mchk cm_27 z (by omega) (by omega)
  by_cases h28 : z < 265
  · exact key 260 5 en_mchk cm_28 z (by omega) (by omega)
  by_cases h29 : z < 270
  · exact key 265 5 en_mchk cm_29 z (by omega) (by omega)
  by_cases h30 : z < 275
  · exact key 270 5 en_mchk cm_30 z (by omega) (by omega)
  by_cases h31 : z < 280
  · exact key 275 5 en_mchk cm_31 z (by omega) (by omega)
  by_cases h32 : z < 285
  · exact key 280 5 en_mchk cm_32 z (by omega) (by omega)
  by_cases h33 : z < 290
  · exact key 285 5 en_mchk cm_33 z (by omega) (by omega)
  by_cases h34 : z < 295
  · exact key 290 5 en_mchk cm_34 z (by omega) (by omega)
  by_cases h35 : z < 300
  · exact key 295 5 en_mchk cm_35 z (by omega) (by omega)
  by_cases h36 : z < 305
  · exact key 300 5 en_mchk cm_36 z (by omega) (by omega)
  by_cases h37 : z < 310
  · exact key 305 5 en_mchk cm_37 z (by omega) (by omega)
  by_cases h38 : z < 315
  · exact key 310 5 en_mchk cm_38 z (by omega) (by omega)
  by_cases h39 : z < 320
  · exact key 315 5 en_mchk cm_39 z (by omega) (by omega)
  by_cases h40 : z < 325
  · exact key 320 5 en_mchk cm_40 z (by omega) (by omega)
  by_cases h41 : z < 330
  · exact key 325 5 en_mchk cm_41 z (by omega) (by omega)
  by_cases h42 : z < 335
  · exact key 330 2 en_mchk cm_42 z (by omega) (by omega)
  omega
