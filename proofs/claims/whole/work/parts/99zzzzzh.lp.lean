/-! the law's loop -/
theorem lw_in {L i k : Nat} (hL : L ≤ 3072) (h : i + k < L) : vp_in (nI i + nI k) L := by
  rw [nI_add]
  exact vp_in_nI h (by omega)
theorem lw_loop {p : Program} {l : Launch} {e : Env} {s : State} {m : MethodId} {b L : Nat} {xs : Nat → Int32} {below : List Frame} {meth : Method} {c : Code} {ad : Nat → Int → Nat} {cA : Nat → ClassId} {D : va_G} {cells slots : Nat} (OK : en_OK) (WK : en_WK l) (C : lw_C p s m meth c b L xs cA D) (hrm : cells ≤ room_1.cells ∧ slots ≤ room_1.slots) (hL : L ≤ 3072) (hD : ∀ σ : en_m, va_D (fun q => s.heap.size ≤ q) (en_W ad cA σ)) : ∀ (n i : Nat), L + 6 ≤ i + n → ∀ (σ : en_m) (H : Heap) (locs : List Loc) (ls : Array Slot), i ≤ L + 6 → iX σ → va_P D classes (en_W ad cA σ) H → va_S (fun q => s.heap.size ≤ q) s.heap H locs → lv_has ls 4 [(3, .int (nI i)), (0, .ref b), (1, .ref (ad r_WA 0)), (2, .ref (ad r_Md 0))] → W p l e room_1 s m #[Value.ref b] below meth c H locs cells slots (lw_Z below #[Value.ref b] s) (F0 m 18 ls []) := by
  intro n
  induction n using Nat.strongRecOn with
  | _ n ih =>
    intro i hn σ H locs ls hi hX hP hS hl
    obtain ⟨⟨hx, hb, hr, hml, hown, hts, hXs, hbl, hlocks, hgv⟩, hK, hXx⟩ := id C
    have hbA : ¬ (fun q : Nat => s.heap.size ≤ q) b := Nat.not_le.mpr hbl
    refine lv_iload_n hx hb d_law_18 rfl (lv_at hl 0 rfl) ?_
    refine lv_aload_n hx hb d_law_19 rfl (lv_at hl 1 rfl) ?_
    refine va_slen hx hb hXs hbl hbA hS d_law_20 ?_
    refine lv_bipush (v := 6) hx hb d_law_21 (by decide) ?_
    refine lv_isub hx hb d_law_23 ?_
    refine lv_icmp_gt (tgt := 1204) hx hb d_law_24 (by decide) (fun z => ?_) (fun z => ?_)
    · refine lv_iconst (v := 1) hx hb d_law_1204 (by decide) ?_
      refine va_forget (fun q hq => hS.2.2 q hq) ?_
      refine W.widen (k := 600000) (n := 7302250) hrm.1 hrm.2 ?_
      exact lw_ret hx hb hr hlocks d_law_1205
    · have h6 : i + 6 ≤ L := by
        rcases Nat.lt_or_ge L (i + 6) with q | q
        · refine absurd ?_ z
          refine Int32.lt_iff_toInt_lt.mpr ?_
          have e1 := pk_sub_toInt (a := L) (b := 6) (by omega) (by omega)
          have e2 : (nI i).toInt = (i : Int) := nI_toInt (by omega)
          show (nI L - nI 6).toInt < (nI i).toInt
          rw [e1, e2]
          omega
        · exact q
      refine lv_aload_n hx hb d_law_27 rfl (lv_at hl 1 rfl) ?_
      refine lv_iload_n hx hb d_law_28 rfl (lv_at hl 0 rfl) ?_
      refine va_sld hx hb hXs hbl hbA hS (vp_in_nI (by omega) (by omega)) d_law_29 ?_
      refine lv_bipush (v := 63) hx hb d_law_30 (by decide) ?_
      refine lv_iand hx hb d_law_32 ?_
      obtain ⟨j, hj, ej⟩ := pk_andE (xs (nI i).toNatClampNeg) (m := 63) 6 (by decide)
      rw [ej]
      have KK : ∀ (σ2 : en_m) (H2 : Heap) (locs2 : List Loc), iX σ2 → va_P D classes (en_W ad cA σ2) H2 → va_S (fun q => s.heap.size ≤ q) s.heap H2 locs2 → W p l e room_1 s m #[Value.ref b] below meth c H2 locs2 cells slots (lw_Z below #[Value.ref b] s) (F0 m 1198 ls []) := fun σ2 H2 locs2 hX2 hP2 hS2 => by
        refine lv_iinc (v := nI (i + 6)) (lv' := [(3, .int (nI (i + 6))), (0, .ref b), (1, .ref (ad r_WA 0)), (2, .ref (ad r_Md 0))]) hx hb d_law_1198 hl (k := 0) rfl (by rw [← nI_add]; rfl) (by decide) rfl (fun ls hl => ?_)
        refine lv_goto (tgt := 18) hx hb d_law_1201 (by decide) ?_
        exact ih (n - 6) (by omega) (i + 6) (by omega) σ2 H2 locs2 ls (by omega) hX2 hP2 hS2 hl
      have i1 := lw_in (k := 1) hL (show i + 1 < L by omega)
      have i2 := lw_in (k := 2) hL (show i + 2 < L by omega)
      have i3 := lw_in (k := 3) hL (show i + 3 < L by omega)
      have i4 := lw_in (k := 4) hL (show i + 4 < L by omega)
      have i5 := lw_in (k := 5) hL (show i + 5 < L by omega)
      rcases (show j = 0 ∨ j = 1 ∨ j = 2 ∨ j = 3 ∨ j = 4 ∨ j = 5 ∨ j = 6 ∨ j = 7 ∨ j = 8 ∨ j = 9 ∨ j = 10 ∨ j = 11 ∨ j = 12 ∨ j = 13 ∨ j = 14 ∨ j = 15 ∨ j = 16 ∨ j = 17 ∨ j = 18 ∨ j = 19 ∨ j = 20 ∨ j = 21 ∨ j = 22 ∨ j = 23 ∨ j = 24 ∨ j = 25 ∨ j = 26 ∨ j = 27 ∨ j = 28 ∨ j = 29 ∨ j = 30 ∨ j = 31 ∨ j = 32 ∨ j = 33 ∨ j = 34 ∨ j = 35 ∨ 36 ≤ j by omega) with rfl | rfl | rfl | rfl | rfl | rfl | rfl | rfl | rfl | rfl | rfl | rfl | rfl | rfl | rfl | rfl | rfl | rfl | rfl | rfl | rfl | rfl | rfl | rfl | rfl | rfl | rfl | rfl | rfl | rfl | rfl | rfl | rfl | rfl | rfl | rfl | h36
      · refine lv_tableIn (tgt := 192) hx hb d_law_33 (by decide +kernel) (by decide +kernel) (off := 159) (by decide +kernel) (by decide) ?_
        exact lw_c_feed OK WK C hrm i1 i2 i3 i4 i5 hl hP (hD σ) hS hX KK
      · refine lv_tableIn (tgt := 255) hx hb d_law_33 (by decide +kernel) (by decide +kernel) (off := 222) (by decide +kernel) (by decide) ?_
        exact lw_c_back OK WK C hrm i1 i2 i3 i4 i5 hl hP (hD σ) hS hX KK
      · refine lv_tableIn (tgt := 278) hx hb d_law_33 (by decide +kernel) (by decide +kernel) (off := 245) (by decide +kernel) (by decide) ?_
        exact lw_c_read OK WK C hrm i1 i2 i3 i4 i5 hl hP (hD σ) hS hX KK
      · refine lv_tableIn (tgt := 291) hx hb d_law_33 (by decide +kernel) (by decide +kernel) (off := 258) (by decide +kernel) (by decide) ?_
        exact lw_c_element OK WK C hrm i1 i2 i3 i4 i5 hl hP (hD σ) hS hX KK
      · refine lv_tableIn (tgt := 314) hx hb d_law_33 (by decide +kernel) (by decide +kernel) (off := 281) (by decide +kernel) (by decide) ?_
        exact lw_c_place OK WK C hrm i1 i2 i3 i4 i5 hl hP (hD σ) hS hX KK
      · refine lv_tableIn (tgt := 327) hx hb d_law_33 (by decide +kernel) (by decide +kernel) (off := 294) (by decide +kernel) (by decide) ?_
        exact lw_c_counts OK WK C hrm i1 i2 i3 i4 i5 hl hP (hD σ) hS hX KK
      · refine lv_tableIn (tgt := 360) hx hb d_law_33 (by decide +kernel) (by decide +kernel) (off := 327) (by decide +kernel) (by decide) ?_
        exact lw_c_words OK WK C hrm i1 i2 i3 i4 i5 hl hP (hD σ) hS hX KK
      · refine lv_tableIn (tgt := 393) hx hb d_law_33 (by decide +kernel) (by decide +kernel) (off := 360) (by decide +kernel) (by decide) ?_
        exact lw_c_put OK WK C hrm i1 i2 i3 i4 i5 hl hP (hD σ) hS hX KK
      · refine lv_tableIn (tgt := 436) hx hb d_law_33 (by decide +kernel) (by decide +kernel) (off := 403) (by decide +kernel) (by decide) ?_
        exact lw_c_add OK WK C hrm i1 i2 i3 i4 i5 hl hP (hD σ) hS hX KK
      · refine lv_tableIn (tgt := 489) hx hb d_law_33 (by decide +kernel) (by decide +kernel) (off := 456) (by decide +kernel) (by decide) ?_
        exact lw_c_multiply OK WK C hrm i1 i2 i3 i4 i5 hl hP (hD σ) hS hX KK
      · refine lv_tableIn (tgt := 532) hx hb d_law_33 (by decide +kernel) (by decide +kernel) (off := 499) (by decide +kernel) (by decide) ?_
        exact lw_c_commute OK WK C hrm i1 i2 i3 i4 i5 hl hP (hD σ) hS hX KK
      · refine lv_tableIn (tgt := 575) hx hb d_law_33 (by decide +kernel) (by decide +kernel) (off := 542) (by decide +kernel) (by decide) ?_
        exact lw_c_plain OK WK C hrm i1 i2 i3 i4 i5 hl hP (hD σ) hS hX KK
      · refine lv_tableIn (tgt := 598) hx hb d_law_33 (by decide +kernel) (by decide +kernel) (off := 565) (by decide +kernel) (by decide) ?_
        exact lw_c_power OK WK C hrm i1 i2 i3 i4 i5 hl hP (hD σ) hS hX KK
      · refine lv_tableIn (tgt := 621) hx hb d_law_33 (by decide +kernel) (by decide +kernel) (off := 588) (by decide +kernel) (by decide) ?_
        exact lw_c_alike OK WK C hrm i1 i2 i3 i4 i5 hl hP (hD σ) hS hX KK
      · refine lv_tableIn (tgt := 654) hx hb d_law_33 (by decide +kernel) (by decide +kernel) (off := 621) (by decide +kernel) (by decide) ?_
        exact lw_c_size OK WK C hrm i1 i2 i3 i4 i5 hl hP (hD σ) hS hX KK
      · refine lv_tableIn (tgt := 677) hx hb d_law_33 (by decide +kernel) (by decide +kernel) (off := 644) (by decide +kernel) (by decide) ?_
        exact lw_c_normal OK WK C hrm i1 i2 i3 i4 i5 hl hP (hD σ) hS hX KK
      · refine lv_tableIn (tgt := 710) hx hb d_law_33 (by decide +kernel) (by decide +kernel) (off := 677) (by decide +kernel) (by decide) ?_
        exact lw_c_form OK WK C hrm i1 i2 i3 i4 i5 hl hP (hD σ) hS hX KK
      · refine lv_tableIn (tgt := 743) hx hb d_law_33 (by decide +kernel) (by decide +kernel) (off := 710) (by decide +kernel) (by decide) ?_
        exact lw_c_table OK WK C hrm i1 i2 i3 i4 i5 hl hP (hD σ) hS hX KK
      · refine lv_tableIn (tgt := 786) hx hb d_law_33 (by decide +kernel) (by decide +kernel) (off := 753) (by decide +kernel) (by decide) ?_
        exact lw_c_base OK WK C hrm i1 i2 i3 i4 i5 hl hP (hD σ) hS hX KK
      · refine lv_tableIn (tgt := 809) hx hb d_law_33 (by decide +kernel) (by decide +kernel) (off := 776) (by decide +kernel) (by decide) ?_
        exact lw_c_baseAt OK WK C hrm i1 i2 i3 i4 i5 hl hP (hD σ) hS hX KK
      · refine lv_tableIn (tgt := 842) hx hb d_law_33 (by decide +kernel) (by decide +kernel) (off := 809) (by decide +kernel) (by decide) ?_
        exact lw_c_closed OK WK C hrm i1 i2 i3 i4 i5 hl hP (hD σ) hS hX KK
      · refine lv_tableIn (tgt := 855) hx hb d_law_33 (by decide +kernel) (by decide +kernel) (off := 822) (by decide +kernel) (by decide) ?_
        exact lw_c_left OK WK C hrm i1 i2 i3 i4 i5 hl hP (hD σ) hS hX KK
      · refine lv_tableIn (tgt := 879) hx hb d_law_33 (by decide +kernel) (by decide +kernel) (off := 846) (by decide +kernel) (by decide) ?_
        exact lw_c_growth OK WK C hrm i1 i2 i3 i4 i5 hl hP (hD σ) hS hX KK
      · refine lv_tableIn (tgt := 892) hx hb d_law_33 (by decide +kernel) (by decide +kernel) (off := 859) (by decide +kernel) (by decide) ?_
        exact lw_c_chains OK WK C hrm i1 i2 i3 i4 i5 hl hP (hD σ) hS hX KK
      · refine lv_tableIn (tgt := 925) hx hb d_law_33 (by decide +kernel) (by decide +kernel) (off := 892) (by decide +kernel) (by decide) ?_
        exact lw_c_dual OK WK C hrm i1 i2 i3 i4 i5 hl hP (hD σ) hS hX KK
      · refine lv_tableIn (tgt := 948) hx hb d_law_33 (by decide +kernel) (by decide +kernel) (off := 915) (by decide +kernel) (by decide) ?_
        exact lw_c_bent OK WK C hrm i1 i2 i3 i4 i5 hl hP (hD σ) hS hX KK
      · refine lv_tableIn (tgt := 961) hx hb d_law_33 (by decide +kernel) (by decide +kernel) (off := 928) (by decide +kernel) (by decide) ?_
        exact lw_c_inverse OK WK C hrm i1 i2 i3 i4 i5 hl hP (hD σ) hS hX KK
      · refine lv_tableIn (tgt := 985) hx hb d_law_33 (by decide +kernel) (by decide +kernel) (off := 952) (by decide +kernel) (by decide) ?_
        exact lw_c_centre OK WK C hrm i1 i2 i3 i4 i5 hl hP (hD σ) hS hX KK
      · refine lv_tableIn (tgt := 1008) hx hb d_law_33 (by decide +kernel) (by decide +kernel) (off := 975) (by decide +kernel) (by decide) ?_
        exact lw_c_rank OK WK C hrm i1 i2 i3 i4 i5 hl hP (hD σ) hS hX KK
      · refine lv_tableIn (tgt := 1067) hx hb d_law_33 (by decide +kernel) (by decide +kernel) (off := 1034) (by decide +kernel) (by decide) ?_
        exact lw_c_points OK WK C hrm i1 i2 i3 i4 i5 hl hP (hD σ) hS hX KK
      · refine lv_tableIn (tgt := 1080) hx hb d_law_33 (by decide +kernel) (by decide +kernel) (off := 1047) (by decide +kernel) (by decide) ?_
        exact lw_c_modules OK WK C hrm i1 i2 i3 i4 i5 hl hP (hD σ) hS hX KK
      · refine lv_tableIn (tgt := 1093) hx hb d_law_33 (by decide +kernel) (by decide +kernel) (off := 1060) (by decide +kernel) (by decide) ?_
        exact lw_c_weight OK WK C hrm i1 i2 i3 i4 i5 hl hP (hD σ) hS hX KK
      · refine lv_tableIn (tgt := 1106) hx hb d_law_33 (by decide +kernel) (by decide +kernel) (off := 1073) (by decide +kernel) (by decide) ?_
        exact lw_c_trace OK WK C hrm i1 i2 i3 i4 i5 hl hP (hD σ) hS hX KK
      · refine lv_tableIn (tgt := 1129) hx hb d_law_33 (by decide +kernel) (by decide +kernel) (off := 1096) (by decide +kernel) (by decide) ?_
        exact lw_c_hold OK WK C hrm i1 i2 i3 i4 i5 hl hP (hD σ) hS hX KK
      · refine lv_tableIn (tgt := 1152) hx hb d_law_33 (by decide +kernel) (by decide +kernel) (off := 1119) (by decide +kernel) (by decide) ?_
        exact lw_c_restore OK WK C hrm i1 i2 i3 i4 i5 hl hP (hD σ) hS hX KK
      · refine lv_tableIn (tgt := 1175) hx hb d_law_33 (by decide +kernel) (by decide +kernel) (off := 1142) (by decide +kernel) (by decide) ?_
        exact lw_c_count OK WK C hrm i1 i2 i3 i4 i5 hl hP (hD σ) hS hX KK
      · refine lv_tableOut (tgt := 1198) hx hb d_law_33 (.inr ?_) (by decide) ?_
        · rw [nI_toInt (by omega)]
          omega
        · exact KK σ H locs hX hP hS
