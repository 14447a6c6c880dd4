/-! the tables checked: methods 240 .. 332 -/
set_option maxRecDepth 1000000 in
set_option maxHeartbeats 4000000 in
theorem ck_12 : (List.range 20).all (fun i => (en_T (240 + i)).all (en_chk (240 + i))) = true := by decide +kernel
set_option maxRecDepth 1000000 in
set_option maxHeartbeats 4000000 in
theorem cm_12 : (List.range 20).all (fun i => en_mchk (240 + i)) = true := by decide +kernel
set_option maxRecDepth 1000000 in
set_option maxHeartbeats 4000000 in
theorem ck_13 : (List.range 20).all (fun i => (en_T (260 + i)).all (en_chk (260 + i))) = true := by decide +kernel
set_option maxRecDepth 1000000 in
set_option maxHeartbeats 4000000 in
theorem cm_13 : (List.range 20).all (fun i => en_mchk (260 + i)) = true := by decide +kernel
set_option maxRecDepth 1000000 in
set_option maxHeartbeats 4000000 in
theorem ck_14 : (List.range 20).all (fun i => (en_T (280 + i)).all (en_chk (280 + i))) = true := by decide +kernel
set_option maxRecDepth 1000000 in
set_option maxHeartbeats 4000000 in
theorem cm_14 : (List.range 20).all (fun i => en_mchk (280 + i)) = true := by decide +kernel
set_option maxRecDepth 1000000 in
set_option maxHeartbeats 4000000 in
theorem ck_15 : (List.range 20).all (fun i => (en_T (300 + i)).all (en_chk (300 + i))) = true := by decide +kernel
set_option maxRecDepth 1000000 in
set_option maxHeartbeats 4000000 in
theorem cm_15 : (List.range 20).all (fun i => en_mchk (300 + i)) = true := by decide +kernel
set_option maxRecDepth 1000000 in
set_option maxHeartbeats 4000000 in
theorem ck_16 : (List.range 20).all (fun i => (en_T (320 + i)).all (en_chk (320 + i))) = true := by decide +kernel
set_option maxRecDepth 1000000 in
set_option maxHeartbeats 4000000 in
theorem cm_16 : (List.range 13).all (fun i => en_mchk (320 + i)) = true := by decide +kernel
theorem ck_big (z : Nat) (h : 340 ≤ z) : en_T z = [] := by
  unfold en_T
  have h1 : en_Ts.length = 17 := by decide +kernel
  rw [List.getD_eq_getElem?_getD (l := en_Ts), List.getElem?_eq_none (by rw [h1]; omega)]
  rfl
theorem en_ok_all : en_OK := by
  have key : ∀ (c n : Nat) (P : Nat → Bool), (List.range n).all (fun i => P (c + i)) = true → ∀ z, c ≤ z → z < c + n → P z = true := by
    intro c n P h z h1 h2
    have := List.all_eq_true.mp h (z - c) (List.mem_range.mpr (by omega))
    rw [show c + (z - c) = z by omega] at this
    exact this
  refine ⟨fun z q hq => ?_, fun z hz => ?_⟩
  · have h : (en_T z).all (en_chk z) = true := by
      by_cases h0 : z < 20
      · exact key 0 20 (fun z => (en_T z).all (en_chk z)) ck_0 z (by omega) (by omega)
      by_cases h1 : z < 40
      · exact key 20 20 (fun z => (en_T z).all (en_chk z)) ck_1 z (by omega) (by omega)
      by_cases h2 : z < 60
      · exact key 40 20 (fun z => (en_T z).all (en_chk z)) ck_2 z (by omega) (by omega)
      by_cases h3 : z < 80
      · exact key 60 20 (fun z => (en_T z).all (en_chk z)) ck_3 z (by omega) (by omega)
      by_cases h4 : z < 100
      · exact key 80 20 (fun z => (en_T z).all (en_chk z)) ck_4 z (by omega) (by omega)
      by_cases h5 : z < 120
      · exact key 100 20 (fun z => (en_T z).all (en_chk z)) ck_5 z (by omega) (by omega)
      by_cases h6 : z < 140
      · exact key 120 20 (fun z => (en_T z).all (en_chk z)) ck_6 z (by omega) (by omega)
      by_cases h7 : z < 160
      · exact key 140 20 (fun z => (en_T z).all (en_chk z)) ck_7 z (by omega) (by omega)
      by_cases h8 : z < 180
      · exact key 160 20 (fun z => (en_T z).all (en_chk z)) ck_8 z (by omega) (by omega)
      by_cases h9 : z < 200
      · exact key 180 20 (fun z => (en_T z).all (en_chk z)) ck_9 z (by omega) (by omega)
      by_cases h10 : z < 220
      · exact key 200 20 (fun z => (en_T z).all (en_chk z)) ck_10 z (by omega) (by omega)
      by_cases h11 : z < 240
      · exact key 220 20 (fun z => (en_T z).all (en_chk z)) ck_11 z (by omega) (by omega)
      by_cases h12 : z < 260
      · exact key 240 20 (fun z => (en_T z).all (en_chk z)) ck_12 z (by omega) (by omega)
      by_cases h13 : z < 280
      · exact key 260 20 (fun z => (en_T z).all (en_chk z)) ck_13 z (by omega) (by omega)
      by_cases h14 : z < 300
      · exact key 280 20 (fun z => (en_T z).all (en_chk z)) ck_14 z (by omega) (by omega)
      by_cases h15 : z < 320
      · exact key 300 20 (fun z => (en_T z).all (en_chk z)) ck_15 z (by omega) (by omega)
      by_cases h16 : z < 340
      · exact key 320 20 (fun z => (en_T z).all (en_chk z)) ck_16 z (by omega) (by omega)
      rw [ck_big z (by omega)]
      rfl
    exact List.all_eq_true.mp h q hq
  by_cases h0 : z < 20
  · exact key 0 20 en_mchk cm_0 z (by omega) (by omega)
  by_cases h1 : z < 40
  · exact key 20 20 en_mchk cm_1 z (by omega) (by omega)
  by_cases h2 : z < 60
  · exact key 40 20 en_mchk cm_2 z (by omega) (by omega)
  by_cases h3 : z < 80
  · exact key 60 20 en_mchk cm_3 z (by omega) (by omega)
  by_cases h4 : z < 100
  · exact key 80 20 en_mchk cm_4 z (by omega) (by omega)
  by_cases h5 : z < 120
  · exact key 100 20 en_mchk cm_5 z (by omega) (by omega)
  by_cases h6 : z < 140
  · exact key 120 20 en_mchk cm_6 z (by omega) (by omega)
  by_cases h7 : z < 160
  · exact key 140 20 en_mchk cm_7 z (by omega) (by omega)
  by_cases h8 : z < 180
  · exact key 160 20 en_mchk cm_8 z (by omega) (by omega)
  by_cases h9 : z < 200
  · exact key 180 20 en_mchk cm_9 z (by omega) (by omega)
  by_cases h10 : z < 220
  · exact key 200 20 en_mchk cm_10 z (by omega) (by omega)
  by_cases h11 : z < 240
  · exact key 220 20 en_mchk cm_11 z (by omega) (by omega)
  by_cases h12 : z < 260
  · exact key 240 20 en_mchk cm_12 z (by omega) (by omega)
  by_cases h13 : z < 280
  · exact key 260 20 en_mchk cm_13 z (by omega) (by omega)
  by_cases h14 : z < 300
  · exact key 280 20 en_mchk cm_14 z (by omega) (by omega)
  by_cases h15 : z < 320
  · exact key 300 20 en_mchk cm_15 z (by omega) (by omega)
  by_cases h16 : z < 340
  · exact key 320 13 en_mchk cm_16 z (by omega) (by omega)
  omega
