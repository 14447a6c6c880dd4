/-! the tables checked: methods 320 .. 331 -/
set_option maxRecDepth 1000000 in
set_option maxHeartbeats 4000000 in
theorem ck_32 : (List.range 10).all (fun i => (en_T (320 + i)).all (en_chk (320 + i))) = true := by decide +kernel
set_option maxRecDepth 1000000 in
set_option maxHeartbeats 4000000 in
theorem cm_32 : (List.range 10).all (fun i => en_mchk (320 + i)) = true := by decide +kernel
set_option maxRecDepth 1000000 in
set_option maxHeartbeats 4000000 in
theorem ck_33 : (List.range 10).all (fun i => (en_T (330 + i)).all (en_chk (330 + i))) = true := by decide +kernel
set_option maxRecDepth 1000000 in
set_option maxHeartbeats 4000000 in
theorem cm_33 : (List.range 2).all (fun i => en_mchk (330 + i)) = true := by decide +kernel
theorem ck_big (z : Nat) (h : 340 ≤ z) : en_T z = [] := by
  unfold en_T
  have h1 : en_Ts.length = 17 := by decide +kernel
  rw [List.getD_eq_getElem?_getD (l := en_Ts), List.getElem?_eq_none (by rw [h1]; omega)]
  rfl
theorem en_ok_all : en_OK := by
  have key : ∀ (c n : Nat) (P : Nat → Bool), (List.range n).all (fun i => P (c + i)) = true → ∀ z, c ≤ z → z < c + n → P z = true := by
    intro c n P h z h1 h2
    have := List.all_eq_true.mp h (z - c) (List.mem_range.mpr (by omega))
    rw [show c + (z - c) = z by omega] at this
    exact this
  refine ⟨fun z q hq => ?_, fun z hz => ?_⟩
  · have h : (en_T z).all (en_chk z) = true := by
      by_cases h0 : z < 10
      · exact key 0 10 (fun z => (en_T z).all (en_chk z)) ck_0 z (by omega) (by omega)
      by_cases h1 : z < 20
      · exact key 10 10 (fun z => (en_T z).all (en_chk z)) ck_1 z (by omega) (by omega)
      by_cases h2 : z < 30
      · exact key 20 10 (fun z => (en_T z).all (en_chk z)) ck_2 z (by omega) (by omega)
      by_cases h3 : z < 40
      · exact key 30 10 (fun z => (en_T z).all (en_chk z)) ck_3 z (by omega) (by omega)
      by_cases h4 : z < 50
      · exact key 40 10 (fun z => (en_T z).all (en_chk z)) ck_4 z (by omega) (by omega)
      by_cases h5 : z < 60
      · exact key 50 10 (fun z => (en_T z).all (en_chk z)) ck_5 z (by omega) (by omega)
      by_cases h6 : z < 70
      · exact key 60 10 (fun z => (en_T z).all (en_chk z)) ck_6 z (by omega) (by omega)
      by_cases h7 : z < 80
      · exact key 70 10 (fun z => (en_T z).all (en_chk z)) ck_7 z (by omega) (by omega)
      by_cases h8 : z < 90
      · exact key 80 10 (fun z => (en_T z).all (en_chk z)) ck_8 z (by omega) (by omega)
      by_cases h9 : z < 100
      · exact key 90 10 (fun z => (en_T z).all (en_chk z)) ck_9 z (by omega) (by omega)
      by_cases h10 : z < 110
      · exact key 100 10 (fun z => (en_T z).all (en_chk z)) ck_10 z (by omega) (by omega)
      by_cases h11 : z < 120
      · exact key 110 10 (fun z => (en_T z).all (en_chk z)) ck_11 z (by omega) (by omega)
      by_cases h12 : z < 130
      · exact key 120 10 (fun z => (en_T z).all (en_chk z)) ck_12 z (by omega) (by omega)
      by_cases h13 : z < 140
      · exact key 130 10 (fun z => (en_T z).all (en_chk z)) ck_13 z (by omega) (by omega)
      by_cases h14 : z < 150
      · exact key 140 10 (fun z => (en_T z).all (en_chk z)) ck_14 z (by omega) (by omega)
      by_cases h15 : z < 160
      · exact key 150 10 (fun z => (en_T z).all (en_chk z)) ck_15 z (by omega) (by omega)
      by_cases h16 : z < 170
      · exact key 160 10 (fun z => (en_T z).all (en_chk z)) ck_16 z (by omega) (by omega)
      by_cases h17 : z < 180
      · exact key 170 10 (fun z => (en_T z).all (en_chk z)) ck_17 z (by omega) (by omega)
      by_cases h18 : z < 190
      · exact key 180 10 (fun z => (en_T z).all (en_chk z)) ck_18 z (by omega) (by omega)
      by_cases h19 : z < 200
      · exact key 190 10 (fun z => (en_T z).all (en_chk z)) ck_19 z (by omega) (by omega)
      by_cases h20 : z < 210
      · exact key 200 10 (fun z => (en_T z).all (en_chk z)) ck_20 z (by omega) (by omega)
      by_cases h21 : z < 220
      · exact key 210 10 (fun z => (en_T z).all (en_chk z)) ck_21 z (by omega) (by omega)
      by_cases h22 : z < 230
      · exact key 220 10 (fun z => (en_T z).all (en_chk z)) ck_22 z (by omega) (by omega)
      by_cases h23 : z < 240
      · exact key 230 10 (fun z => (en_T z).all (en_chk z)) ck_23 z (by omega) (by omega)
      by_cases h24 : z < 250
      · exact key 240 10 (fun z => (en_T z).all (en_chk z)) ck_24 z (by omega) (by omega)
      by_cases h25 : z < 260
      · exact key 250 10 (fun z => (en_T z).all (en_chk z)) ck_25 z (by omega) (by omega)
      by_cases h26 : z < 270
      · exact key 260 10 (fun z => (en_T z).all (en_chk z)) ck_26 z (by omega) (by omega)
      by_cases h27 : z < 280
      · exact key 270 10 (fun z => (en_T z).all (en_chk z)) ck_27 z (by omega) (by omega)
      by_cases h28 : z < 290
      · exact key 280 10 (fun z => (en_T z).all (en_chk z)) ck_28 z (by omega) (by omega)
      by_cases h29 : z < 300
      · exact key 290 10 (fun z => (en_T z).all (en_chk z)) ck_29 z (by omega) (by omega)
      by_cases h30 : z < 310
      · exact key 300 10 (fun z => (en_T z).all (en_chk z)) ck_30 z (by omega) (by omega)
      by_cases h31 : z < 320
      · exact key 310 10 (fun z => (en_T z).all (en_chk z)) ck_31 z (by omega) (by omega)
      by_cases h32 : z < 330
      · exact key 320 10 (fun z => (en_T z).all (en_chk z)) ck_32 z (by omega) (by omega)
      by_cases h33 : z < 340
      · exact key 330 10 (fun z => (en_T z).all (en_chk z)) ck_33 z (by omega) (by omega)
      rw [ck_big z (by omega)]
      rfl
    exact List.all_eq_true.mp h q hq
  by_cases h0 : z < 10
  · exact key 0 10 en_mchk cm_0 z (by omega) (by omega)
  by_cases h1 : z < 20
  · exact key 10 10 en_mchk cm_1 z (by omega) (by omega)
  by_cases h2 : z < 30
  · exact key 20 10 en_mchk cm_2 z (by omega) (by omega)
  by_cases h3 : z < 40
  · exact key 30 10 en_mchk cm_3 z (by omega) (by omega)
  by_cases h4 : z < 50
  · exact key 40 10 en_mchk cm_4 z (by omega) (by omega)
  by_cases h5 : z < 60
  · exact key 50 10 en_mchk cm_5 z (by omega) (by omega)
  by_cases h6 : z < 70
  · exact key 60 10 en_mchk cm_6 z (by omega) (by omega)
  by_cases h7 : z < 80
  · exact key 70 10 en_mchk cm_7 z (by omega) (by omega)
  by_cases h8 : z < 90
  · exact key 80 10 en_mchk cm_8 z (by omega) (by omega)
  by_cases h9 : z < 100
  · exact key 90 10 en_mchk cm_9 z (by omega) (by omega)
  by_cases h10 : z < 110
  · exact key 100 10 en_mchk cm_10 z (by omega) (by omega)
  by_cases h11 : z < 120
  · exact key 110 10 en_mchk cm_11 z (by omega) (by omega)
  by_cases h12 : z < 130
  · exact key 120 10 en_mchk cm_12 z (by omega) (by omega)
  by_cases h13 : z < 140
  · exact key 130 10 en_mchk cm_13 z (by omega) (by omega)
  by_cases h14 : z < 150
  · exact key 140 10 en_mchk cm_14 z (by omega) (by omega)
  by_cases h15 : z < 160
  · exact key 150 10 en_mchk cm_15 z (by omega) (by omega)
  by_cases h16 : z < 170
  · exact key 160 10 en_mchk cm_16 z (by omega) (by omega)
  by_cases h17 : z < 180
  · exact key 170 10 en_mchk cm_17 z (by omega) (by omega)
  by_cases h18 : z < 190
  · exact key 180 10 en_mchk cm_18 z (by omega) (by omega)
  by_cases h19 : z < 200
  · exact key 190 10 en_mchk cm_19 z (by omega) (by omega)
  by_cases h20 : z < 210
  · exact key 200 10 en_mchk cm_20 z (by omega) (by omega)
  by_cases h21 : z < 220
  · exact key 210 10 en_mchk cm_21 z (by omega) (by omega)
  by_cases h22 : z < 230
  · exact key 220 10 en_mchk cm_22 z (by omega) (by omega)
  by_cases h23 : z < 240
  · exact key 230 10 en_mchk cm_23 z (by omega) (by omega)
  by_cases h24 : z < 250
  · exact key 240 10 en_mchk cm_24 z (by omega) (by omega)
  by_cases h25 : z < 260
  · exact key 250 10 en_mchk cm_25 z (by omega) (by omega)
  by_cases h26 : z < 270
  · exact key 260 10 en_mchk cm_26 z (by omega) (by omega)
  by_cases h27 : z < 280
  · exact key 270 10 en_mchk cm_27 z (by omega) (by omega)
  by_cases h28 : z < 290
  · exact key 280 10 en_mchk cm_28 z (by omega) (by omega)
  by_cases h29 : z < 300
  · exact key 290 10 en_mchk cm_29 z (by omega) (by omega)
  by_cases h30 : z < 310
  · exact key 300 10 en_mchk cm_30 z (by omega) (by omega)
  by_cases h31 : z < 320
  · exact key 310 10 en_mchk cm_31 z (by omega) (by omega)
  by_cases h32 : z < 330
  · exact key 320 10 en_mchk cm_32 z (by omega) (by omega)
  by_cases h33 : z < 340
  · exact key 330 2 en_mchk cm_33 z (by omega) (by omega)
  omega
