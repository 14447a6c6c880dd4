/-! each case of the law's switch (on) -/
theorem lw_c_base {p : Program} {l : Launch} {e : Env} {s : State} {m : MethodId} {b L : Nat} {xs : Nat → Int32} {below : List Frame} {meth : Method} {c : Code} {ad : Nat → Int → Nat} {cA : Nat → ClassId} {D : va_G} {ls : Array Slot} {H : Heap} {locs : List Loc} {σ : en_m} {Q : State → Prop} {cells slots : Nat} {x3 : Int32} (OK : en_OK) (WK : en_WK l) (C : lw_C p s m meth c b L xs cA D) (hrm : cells ≤ room_1.cells ∧ slots ≤ room_1.slots) (hin1 : vp_in (x3 + 1) L) (hin2 : vp_in (x3 + 2) L) (hin3 : vp_in (x3 + 3) L) (hin4 : vp_in (x3 + 4) L) (hin5 : vp_in (x3 + 5) L) (hl : lv_has ls 4 [(3, .int x3), (0, .ref b), (1, .ref (ad r_WA 0)), (2, .ref (ad r_Md 0))]) (hP : va_P D classes (en_W ad cA σ) H) (hD : va_D (fun q => s.heap.size ≤ q) (en_W ad cA σ)) (hS : va_S (fun q => s.heap.size ≤ q) s.heap H locs) (hX : iX σ) (kk : ∀ (σ2 : en_m) (H2 : Heap) (locs2 : List Loc), iX σ2 → va_P D classes (en_W ad cA σ2) H2 → va_S (fun q => s.heap.size ≤ q) s.heap H2 locs2 → W p l e room_1 s m #[Value.ref b] below meth c H2 locs2 cells slots Q (F0 m 1198 ls [])) : W p l e room_1 s m #[Value.ref b] below meth c H locs cells slots Q (F0 m 786 ls []) := by
  obtain ⟨nn, DD, pp, LW, hV⟩ := hX
  obtain ⟨⟨hx, hb, hr, hml, hown, hts, hXs, hbl, hlocks, hgv⟩, hK, hXx⟩ := id C
  have hbA : ¬ (fun q : Nat => s.heap.size ≤ q) b := Nat.not_le.mpr hbl
  obtain ⟨r1, σ1, E2, M1⟩ := en_meth OK WK (a := z_X11_base) (by decide) (lok_1 mem_WA) (Nat.le_of_ble_eq_true rfl) (eq_base hV (i32_of (xs (x3 + 1).toNatClampNeg)))
  obtain ⟨r2, σ2, ⟨⟨v, hv1, hv2⟩, hX2⟩, M2⟩ := en_meth OK WK (a := z_X12_base) (by decide) (lok_1 mem_Md) (Nat.le_of_ble_eq_true rfl) E2
  subst hv1 hv2
  refine lv_aload_n hx hb d_law_786 rfl (lv_at hl 2 rfl) ?_
  refine lv_aload_n hx hb d_law_787 rfl (lv_at hl 1 rfl) ?_
  refine lv_iload_n hx hb d_law_788 rfl (lv_at hl 0 rfl) ?_
  refine lv_iconst (v := 1) hx hb d_law_789 (by decide) ?_
  refine lv_iadd hx hb d_law_790 ?_
  refine va_sld hx hb hXs hbl hbA hS hin1 d_law_791 ?_
  refine lw_call OK (by decide) C hP hD hS hl.1 M1 mem_WA rfl rfl rfl rfl rfl lk1_base ⟨Nat.le_of_ble_eq_true rfl, Nat.le_of_ble_eq_true rfl⟩ (Nat.le_of_ble_eq_true rfl) d_law_792 hrm lst_1 (fun H1 locs1 hP1 hS1 => ?_)
  refine lv_aload_n hx hb d_law_795 rfl (lv_at hl 3 rfl) ?_
  refine lv_aload_n hx hb d_law_796 rfl (lv_at hl 1 rfl) ?_
  refine lv_iload_n hx hb d_law_797 rfl (lv_at hl 0 rfl) ?_
  refine lv_iconst (v := 1) hx hb d_law_798 (by decide) ?_
  refine lv_iadd hx hb d_law_799 ?_
  refine va_sld hx hb hXs hbl hbA hS1 hin1 d_law_800 ?_
  refine lw_call OK (by decide) C hP1 (lw_D hD) hS1 hl.1 M2 mem_Md rfl rfl rfl rfl rfl lk2_base ⟨Nat.le_of_ble_eq_true rfl, Nat.le_of_ble_eq_true rfl⟩ (Nat.le_of_ble_eq_true rfl) d_law_801 hrm lst_1 (fun H2 locs2 hP2 hS2 => ?_)
  refine W.eq (g2 := F0 m 804 ls [.int (Int32.ofInt v), .int (Int32.ofInt v)]) rfl ?_
  exact lv_icmp_eq (tgt := 1198) hx hb d_law_804 (by decide) (fun _ => kk σ2 H2 locs2 hX2 hP2 hS2) (fun z => absurd rfl z)
theorem lw_c_baseAt {p : Program} {l : Launch} {e : Env} {s : State} {m : MethodId} {b L : Nat} {xs : Nat → Int32} {below : List Frame} {meth : Method} {c : Code} {ad : Nat → Int → Nat} {cA : Nat → ClassId} {D : va_G} {ls : Array Slot} {H : Heap} {locs : List Loc} {σ : en_m} {Q : State → Prop} {cells slots : Nat} {x3 : Int32} (OK : en_OK) (WK : en_WK l) (C : lw_C p s m meth c b L xs cA D) (hrm : cells ≤ room_1.cells ∧ slots ≤ room_1.slots) (hin1 : vp_in (x3 + 1) L) (hin2 : vp_in (x3 + 2) L) (hin3 : vp_in (x3 + 3) L) (hin4 : vp_in (x3 + 4) L) (hin5 : vp_in (x3 + 5) L) (hl : lv_has ls 4 [(3, .int x3), (0, .ref b), (1, .ref (ad r_WA 0)), (2, .ref (ad r_Md 0))]) (hP : va_P D classes (en_W ad cA σ) H) (hD : va_D (fun q => s.heap.size ≤ q) (en_W ad cA σ)) (hS : va_S (fun q => s.heap.size ≤ q) s.heap H locs) (hX : iX σ) (kk : ∀ (σ2 : en_m) (H2 : Heap) (locs2 : List Loc), iX σ2 → va_P D classes (en_W ad cA σ2) H2 → va_S (fun q => s.heap.size ≤ q) s.heap H2 locs2 → W p l e room_1 s m #[Value.ref b] below meth c H2 locs2 cells slots Q (F0 m 1198 ls [])) : W p l e room_1 s m #[Value.ref b] below meth c H locs cells slots Q (F0 m 809 ls []) := by
  obtain ⟨nn, DD, pp, LW, hV⟩ := hX
  obtain ⟨⟨hx, hb, hr, hml, hown, hts, hXs, hbl, hlocks, hgv⟩, hK, hXx⟩ := id C
  have hbA : ¬ (fun q : Nat => s.heap.size ≤ q) b := Nat.not_le.mpr hbl
  obtain ⟨r1, σ1, E2, M1⟩ := en_meth OK WK (a := z_X11_baseAt) (by decide) (lok_2 mem_WA) (Nat.le_of_ble_eq_true rfl) (eq_baseAt hV (i32_of (xs (x3 + 1).toNatClampNeg)) (i32_of (xs (x3 + 2).toNatClampNeg)))
  obtain ⟨r2, σ2, ⟨⟨v, hv1, hv2⟩, hX2⟩, M2⟩ := en_meth OK WK (a := z_X12_baseAt) (by decide) (lok_2 mem_Md) (Nat.le_of_ble_eq_true rfl) E2
  subst hv1 hv2
  refine lv_aload_n hx hb d_law_809 rfl (lv_at hl 2 rfl) ?_
  refine lv_aload_n hx hb d_law_810 rfl (lv_at hl 1 rfl) ?_
  refine lv_iload_n hx hb d_law_811 rfl (lv_at hl 0 rfl) ?_
  refine lv_iconst (v := 1) hx hb d_law_812 (by decide) ?_
  refine lv_iadd hx hb d_law_813 ?_
  refine va_sld hx hb hXs hbl hbA hS hin1 d_law_814 ?_
  refine lv_aload_n hx hb d_law_815 rfl (lv_at hl 1 rfl) ?_
  refine lv_iload_n hx hb d_law_816 rfl (lv_at hl 0 rfl) ?_
  refine lv_iconst (v := 2) hx hb d_law_817 (by decide) ?_
  refine lv_iadd hx hb d_law_818 ?_
  refine va_sld hx hb hXs hbl hbA hS hin2 d_law_819 ?_
  refine lw_call OK (by decide) C hP hD hS hl.1 M1 mem_WA rfl rfl rfl rfl rfl lk1_baseAt ⟨Nat.le_of_ble_eq_true rfl, Nat.le_of_ble_eq_true rfl⟩ (Nat.le_of_ble_eq_true rfl) d_law_820 hrm lst_2 (fun H1 locs1 hP1 hS1 => ?_)
  refine lv_aload_n hx hb d_law_823 rfl (lv_at hl 3 rfl) ?_
  refine lv_aload_n hx hb d_law_824 rfl (lv_at hl 1 rfl) ?_
  refine lv_iload_n hx hb d_law_825 rfl (lv_at hl 0 rfl) ?_
  refine lv_iconst (v := 1) hx hb d_law_826 (by decide) ?_
  refine lv_iadd hx hb d_law_827 ?_
  refine va_sld hx hb hXs hbl hbA hS1 hin1 d_law_828 ?_
  refine lv_aload_n hx hb d_law_829 rfl (lv_at hl 1 rfl) ?_
  refine lv_iload_n hx hb d_law_830 rfl (lv_at hl 0 rfl) ?_
  refine lv_iconst (v := 2) hx hb d_law_831 (by decide) ?_
  refine lv_iadd hx hb d_law_832 ?_
  refine va_sld hx hb hXs hbl hbA hS1 hin2 d_law_833 ?_
  refine lw_call OK (by decide) C hP1 (lw_D hD) hS1 hl.1 M2 mem_Md rfl rfl rfl rfl rfl lk2_baseAt ⟨Nat.le_of_ble_eq_true rfl, Nat.le_of_ble_eq_true rfl⟩ (Nat.le_of_ble_eq_true rfl) d_law_834 hrm lst_2 (fun H2 locs2 hP2 hS2 => ?_)
  refine W.eq (g2 := F0 m 837 ls [.int (Int32.ofInt v), .int (Int32.ofInt v)]) rfl ?_
  exact lv_icmp_eq (tgt := 1198) hx hb d_law_837 (by decide) (fun _ => kk σ2 H2 locs2 hX2 hP2 hS2) (fun z => absurd rfl z)
theorem lw_c_closed {p : Program} {l : Launch} {e : Env} {s : State} {m : MethodId} {b L : Nat} {xs : Nat → Int32} {below : List Frame} {meth : Method} {c : Code} {ad : Nat → Int → Nat} {cA : Nat → ClassId} {D : va_G} {ls : Array Slot} {H : Heap} {locs : List Loc} {σ : en_m} {Q : State → Prop} {cells slots : Nat} {x3 : Int32} (OK : en_OK) (WK : en_WK l) (C : lw_C p s m meth c b L xs cA D) (hrm : cells ≤ room_1.cells ∧ slots ≤ room_1.slots) (hin1 : vp_in (x3 + 1) L) (hin2 : vp_in (x3 + 2) L) (hin3 : vp_in (x3 + 3) L) (hin4 : vp_in (x3 + 4) L) (hin5 : vp_in (x3 + 5) L) (hl : lv_has ls 4 [(3, .int x3), (0, .ref b), (1, .ref (ad r_WA 0)), (2, .ref (ad r_Md 0))]) (hP : va_P D classes (en_W ad cA σ) H) (hD : va_D (fun q => s.heap.size ≤ q) (en_W ad cA σ)) (hS : va_S (fun q => s.heap.size ≤ q) s.heap H locs) (hX : iX σ) (kk : ∀ (σ2 : en_m) (H2 : Heap) (locs2 : List Loc), iX σ2 → va_P D classes (en_W ad cA σ2) H2 → va_S (fun q => s.heap.size ≤ q) s.heap H2 locs2 → W p l e room_1 s m #[Value.ref b] below meth c H2 locs2 cells slots Q (F0 m 1198 ls [])) : W p l e room_1 s m #[Value.ref b] below meth c H locs cells slots Q (F0 m 842 ls []) := by
  obtain ⟨nn, DD, pp, LW, hV⟩ := hX
  obtain ⟨⟨hx, hb, hr, hml, hown, hts, hXs, hbl, hlocks, hgv⟩, hK, hXx⟩ := id C
  have hbA : ¬ (fun q : Nat => s.heap.size ≤ q) b := Nat.not_le.mpr hbl
  obtain ⟨r1, σ1, E2, M1⟩ := en_meth OK WK (a := z_X11_closed) (by decide) (lok_0 mem_WA) (Nat.le_of_ble_eq_true rfl) (eq_closed hV)
  obtain ⟨r2, σ2, ⟨⟨v, hv1, hv2⟩, hX2⟩, M2⟩ := en_meth OK WK (a := z_X12_closed) (by decide) (lok_0 mem_Md) (Nat.le_of_ble_eq_true rfl) E2
  subst hv1 hv2
  refine lv_aload_n hx hb d_law_842 rfl (lv_at hl 2 rfl) ?_
  refine lw_call OK (by decide) C hP hD hS hl.1 M1 mem_WA rfl rfl rfl rfl rfl lk1_closed ⟨Nat.le_of_ble_eq_true rfl, Nat.le_of_ble_eq_true rfl⟩ (Nat.le_of_ble_eq_true rfl) d_law_843 hrm lst_0 (fun H1 locs1 hP1 hS1 => ?_)
  refine lv_aload_n hx hb d_law_846 rfl (lv_at hl 3 rfl) ?_
  refine lw_call OK (by decide) C hP1 (lw_D hD) hS1 hl.1 M2 mem_Md rfl rfl rfl rfl rfl lk2_closed ⟨Nat.le_of_ble_eq_true rfl, Nat.le_of_ble_eq_true rfl⟩ (Nat.le_of_ble_eq_true rfl) d_law_847 hrm lst_0 (fun H2 locs2 hP2 hS2 => ?_)
  refine W.eq (g2 := F0 m 850 ls [.int (Int32.ofInt v), .int (Int32.ofInt v)]) rfl ?_
  exact lv_icmp_eq (tgt := 1198) hx hb d_law_850 (by decide) (fun _ => kk σ2 H2 locs2 hX2 hP2 hS2) (fun z => absurd rfl z)
theorem lw_c_left {p : Program} {l : Launch} {e : Env} {s : State} {m : MethodId} {b L : Nat} {xs : Nat → Int32} {below : List Frame} {meth : Method} {c : Code} {ad : Nat → Int → Nat} {cA : Nat → ClassId} {D : va_G} {ls : Array Slot} {H : Heap} {locs : List Loc} {σ : en_m} {Q : State → Prop} {cells slots : Nat} {x3 : Int32} (OK : en_OK) (WK : en_WK l) (C : lw_C p s m meth c b L xs cA D) (hrm : cells ≤ room_1.cells ∧ slots ≤ room_1.slots) (hin1 : vp_in (x3 + 1) L) (hin2 : vp_in (x3 + 2) L) (hin3 : vp_in (x3 + 3) L) (hin4 : vp_in (x3 + 4) L) (hin5 : vp_in (x3 + 5) L) (hl : lv_has ls 4 [(3, .int x3), (0, .ref b), (1, .ref (ad r_WA 0)), (2, .ref (ad r_Md 0))]) (hP : va_P D classes (en_W ad cA σ) H) (hD : va_D (fun q => s.heap.size ≤ q) (en_W ad cA σ)) (hS : va_S (fun q => s.heap.size ≤ q) s.heap H locs) (hX : iX σ) (kk : ∀ (σ2 : en_m) (H2 : Heap) (locs2 : List Loc), iX σ2 → va_P D classes (en_W ad cA σ2) H2 → va_S (fun q => s.heap.size ≤ q) s.heap H2 locs2 → W p l e room_1 s m #[Value.ref b] below meth c H2 locs2 cells slots Q (F0 m 1198 ls [])) : W p l e room_1 s m #[Value.ref b] below meth c H locs cells slots Q (F0 m 855 ls []) := by
  obtain ⟨nn, DD, pp, LW, hV⟩ := hX
  obtain ⟨⟨hx, hb, hr, hml, hown, hts, hXs, hbl, hlocks, hgv⟩, hK, hXx⟩ := id C
  have hbA : ¬ (fun q : Nat => s.heap.size ≤ q) b := Nat.not_le.mpr hbl
  obtain ⟨r1, σ1, E2, M1⟩ := en_meth OK WK (a := z_X11_left) (by decide) (lok_1 mem_WA) (Nat.le_of_ble_eq_true rfl) (eq_left hV (i32_of (xs (x3 + 1).toNatClampNeg)))
  obtain ⟨r2, σ2, ⟨⟨v, hv1, hv2⟩, hX2⟩, M2⟩ := en_meth OK WK (a := z_X12_left) (by decide) (lok_1 mem_Md) (Nat.le_of_ble_eq_true rfl) E2
  subst hv1 hv2
  refine lv_aload_n hx hb d_law_855 rfl (lv_at hl 2 rfl) ?_
  refine lv_aload_n hx hb d_law_856 rfl (lv_at hl 1 rfl) ?_
  refine lv_iload_n hx hb d_law_857 rfl (lv_at hl 0 rfl) ?_
  refine lv_iconst (v := 1) hx hb d_law_858 (by decide) ?_
  refine lv_iadd hx hb d_law_859 ?_
  refine va_sld hx hb hXs hbl hbA hS hin1 d_law_860 ?_
  refine lw_call OK (by decide) C hP hD hS hl.1 M1 mem_WA rfl rfl rfl rfl rfl lk1_left ⟨Nat.le_of_ble_eq_true rfl, Nat.le_of_ble_eq_true rfl⟩ (Nat.le_of_ble_eq_true rfl) d_law_861 hrm lst_1 (fun H1 locs1 hP1 hS1 => ?_)
  refine lv_aload_n hx hb d_law_864 rfl (lv_at hl 3 rfl) ?_
  refine lv_aload_n hx hb d_law_865 rfl (lv_at hl 1 rfl) ?_
  refine lv_iload_n hx hb d_law_866 rfl (lv_at hl 0 rfl) ?_
  refine lv_iconst (v := 1) hx hb d_law_867 (by decide) ?_
  refine lv_iadd hx hb d_law_868 ?_
  refine va_sld hx hb hXs hbl hbA hS1 hin1 d_law_869 ?_
  refine lw_call OK (by decide) C hP1 (lw_D hD) hS1 hl.1 M2 mem_Md rfl rfl rfl rfl rfl lk2_left ⟨Nat.le_of_ble_eq_true rfl, Nat.le_of_ble_eq_true rfl⟩ (Nat.le_of_ble_eq_true rfl) d_law_870 hrm lst_1 (fun H2 locs2 hP2 hS2 => ?_)
  refine W.eq (g2 := F0 m 873 ls [.long (Int64.ofInt v), .long (Int64.ofInt v)]) rfl ?_
  refine W.lcmp hx hb d_law_873 ?_
  rw [nu_cmp, if_neg (Int.lt_irrefl _), if_neg (Int.lt_irrefl _)]
  exact lv_if_eq (tgt := 1198) hx hb d_law_874 (by decide) (fun _ => kk σ2 H2 locs2 hX2 hP2 hS2) (fun z => absurd rfl z)
theorem lw_c_growth {p : Program} {l : Launch} {e : Env} {s : State} {m : MethodId} {b L : Nat} {xs : Nat → Int32} {below : List Frame} {meth : Method} {c : Code} {ad : Nat → Int → Nat} {cA : Nat → ClassId} {D : va_G} {ls : Array Slot} {H : Heap} {locs : List Loc} {σ : en_m} {Q : State → Prop} {cells slots : Nat} {x3 : Int32} (OK : en_OK) (WK : en_WK l) (C : lw_C p s m meth c b L xs cA D) (hrm : cells ≤ room_1.cells ∧ slots ≤ room_1.slots) (hin1 : vp_in (x3 + 1) L) (hin2 : vp_in (x3 + 2) L) (hin3 : vp_in (x3 + 3) L) (hin4 : vp_in (x3 + 4) L) (hin5 : vp_in (x3 + 5) L) (hl : lv_has ls 4 [(3, .int x3), (0, .ref b), (1, .ref (ad r_WA 0)), (2, .ref (ad r_Md 0))]) (hP : va_P D classes (en_W ad cA σ) H) (hD : va_D (fun q => s.heap.size ≤ q) (en_W ad cA σ)) (hS : va_S (fun q => s.heap.size ≤ q) s.heap H locs) (hX : iX σ) (kk : ∀ (σ2 : en_m) (H2 : Heap) (locs2 : List Loc), iX σ2 → va_P D classes (en_W ad cA σ2) H2 → va_S (fun q => s.heap.size ≤ q) s.heap H2 locs2 → W p l e room_1 s m #[Value.ref b] below meth c H2 locs2 cells slots Q (F0 m 1198 ls [])) : W p l e room_1 s m #[Value.ref b] below meth c H locs cells slots Q (F0 m 879 ls []) := by
  obtain ⟨nn, DD, pp, LW, hV⟩ := hX
  obtain ⟨⟨hx, hb, hr, hml, hown, hts, hXs, hbl, hlocks, hgv⟩, hK, hXx⟩ := id C
  have hbA : ¬ (fun q : Nat => s.heap.size ≤ q) b := Nat.not_le.mpr hbl
  obtain ⟨r1, σ1, E2, M1⟩ := en_meth OK WK (a := z_X11_growth) (by decide) (lok_0 mem_WA) (Nat.le_of_ble_eq_true rfl) (eq_growth hV)
  obtain ⟨r2, σ2, ⟨⟨v, hv1, hv2⟩, hX2⟩, M2⟩ := en_meth OK WK (a := z_X12_growth) (by decide) (lok_0 mem_Md) (Nat.le_of_ble_eq_true rfl) E2
  subst hv1 hv2
  refine lv_aload_n hx hb d_law_879 rfl (lv_at hl 2 rfl) ?_
  refine lw_call OK (by decide) C hP hD hS hl.1 M1 mem_WA rfl rfl rfl rfl rfl lk1_growth ⟨Nat.le_of_ble_eq_true rfl, Nat.le_of_ble_eq_true rfl⟩ (Nat.le_of_ble_eq_true rfl) d_law_880 hrm lst_0 (fun H1 locs1 hP1 hS1 => ?_)
  refine lv_aload_n hx hb d_law_883 rfl (lv_at hl 3 rfl) ?_
  refine lw_call OK (by decide) C hP1 (lw_D hD) hS1 hl.1 M2 mem_Md rfl rfl rfl rfl rfl lk2_growth ⟨Nat.le_of_ble_eq_true rfl, Nat.le_of_ble_eq_true rfl⟩ (Nat.le_of_ble_eq_true rfl) d_law_884 hrm lst_0 (fun H2 locs2 hP2 hS2 => ?_)
  refine W.eq (g2 := F0 m 887 ls [.int (Int32.ofInt v), .int (Int32.ofInt v)]) rfl ?_
  exact lv_icmp_eq (tgt := 1198) hx hb d_law_887 (by decide) (fun _ => kk σ2 H2 locs2 hX2 hP2 hS2) (fun z => absurd rfl z)
theorem lw_c_chains {p : Program} {l : Launch} {e : Env} {s : State} {m : MethodId} {b L : Nat} {xs : Nat → Int32} {below : List Frame} {meth : Method} {c : Code} {ad : Nat → Int → Nat} {cA : Nat → ClassId} {D : va_G} {ls : Array Slot} {H : Heap} {locs : List Loc} {σ : en_m} {Q : State → Prop} {cells slots : Nat} {x3 : Int32} (OK : en_OK) (WK : en_WK l) (C : lw_C p s m meth c b L xs cA D) (hrm : cells ≤ room_1.cells ∧ slots ≤ room_1.slots) (hin1 : vp_in (x3 + 1) L) (hin2 : vp_in (x3 + 2) L) (hin3 : vp_in (x3 + 3) L) (hin4 : vp_in (x3 + 4) L) (hin5 : vp_in (x3 + 5) L) (hl : lv_has ls 4 [(3, .int x3), (0, .ref b), (1, .ref (ad r_WA 0)), (2, .ref (ad r_Md 0))]) (hP : va_P D classes (en_W ad cA σ) H) (hD : va_D (fun q => s.heap.size ≤ q) (en_W ad cA σ)) (hS : va_S (fun q => s.heap.size ≤ q) s.heap H locs) (hX : iX σ) (kk : ∀ (σ2 : en_m) (H2 : Heap) (locs2 : List Loc), iX σ2 → va_P D classes (en_W ad cA σ2) H2 → va_S (fun q => s.heap.size ≤ q) s.heap H2 locs2 → W p l e room_1 s m #[Value.ref b] below meth c H2 locs2 cells slots Q (F0 m 1198 ls [])) : W p l e room_1 s m #[Value.ref b] below meth c H locs cells slots Q (F0 m 892 ls []) := by
  obtain ⟨nn, DD, pp, LW, hV⟩ := hX
  obtain ⟨⟨hx, hb, hr, hml, hown, hts, hXs, hbl, hlocks, hgv⟩, hK, hXx⟩ := id C
  have hbA : ¬ (fun q : Nat => s.heap.size ≤ q) b := Nat.not_le.mpr hbl
  obtain ⟨r1, σ1, E2, M1⟩ := en_meth OK WK (a := z_X11_chains) (by decide) (lok_2 mem_WA) (Nat.le_of_ble_eq_true rfl) (eq_chains hV (i32_of (xs (x3 + 1).toNatClampNeg)) (i32_of (xs (x3 + 2).toNatClampNeg)))
  obtain ⟨r2, σ2, ⟨⟨v, hv1, hv2⟩, hX2⟩, M2⟩ := en_meth OK WK (a := z_X12_chains) (by decide) (lok_2 mem_Md) (Nat.le_of_ble_eq_true rfl) E2
  subst hv1 hv2
  refine lv_aload_n hx hb d_law_892 rfl (lv_at hl 2 rfl) ?_
  refine lv_aload_n hx hb d_law_893 rfl (lv_at hl 1 rfl) ?_
  refine lv_iload_n hx hb d_law_894 rfl (lv_at hl 0 rfl) ?_
  refine lv_iconst (v := 1) hx hb d_law_895 (by decide) ?_
  refine lv_iadd hx hb d_law_896 ?_
  refine va_sld hx hb hXs hbl hbA hS hin1 d_law_897 ?_
  refine lv_aload_n hx hb d_law_898 rfl (lv_at hl 1 rfl) ?_
  refine lv_iload_n hx hb d_law_899 rfl (lv_at hl 0 rfl) ?_
  refine lv_iconst (v := 2) hx hb d_law_900 (by decide) ?_
  refine lv_iadd hx hb d_law_901 ?_
  refine va_sld hx hb hXs hbl hbA hS hin2 d_law_902 ?_
  refine lw_call OK (by decide) C hP hD hS hl.1 M1 mem_WA rfl rfl rfl rfl rfl lk1_chains ⟨Nat.le_of_ble_eq_true rfl, Nat.le_of_ble_eq_true rfl⟩ (Nat.le_of_ble_eq_true rfl) d_law_903 hrm lst_2 (fun H1 locs1 hP1 hS1 => ?_)
  refine lv_aload_n hx hb d_law_906 rfl (lv_at hl 3 rfl) ?_
  refine lv_aload_n hx hb d_law_907 rfl (lv_at hl 1 rfl) ?_
  refine lv_iload_n hx hb d_law_908 rfl (lv_at hl 0 rfl) ?_
  refine lv_iconst (v := 1) hx hb d_law_909 (by decide) ?_
  refine lv_iadd hx hb d_law_910 ?_
  refine va_sld hx hb hXs hbl hbA hS1 hin1 d_law_911 ?_
  refine lv_aload_n hx hb d_law_912 rfl (lv_at hl 1 rfl) ?_
  refine lv_iload_n hx hb d_law_913 rfl (lv_at hl 0 rfl) ?_
  refine lv_iconst (v := 2) hx hb d_law_914 (by decide) ?_
  refine lv_iadd hx hb d_law_915 ?_
  refine va_sld hx hb hXs hbl hbA hS1 hin2 d_law_916 ?_
  refine lw_call OK (by decide) C hP1 (lw_D hD) hS1 hl.1 M2 mem_Md rfl rfl rfl rfl rfl lk2_chains ⟨Nat.le_of_ble_eq_true rfl, Nat.le_of_ble_eq_true rfl⟩ (Nat.le_of_ble_eq_true rfl) d_law_917 hrm lst_2 (fun H2 locs2 hP2 hS2 => ?_)
  refine W.eq (g2 := F0 m 920 ls [.int (Int32.ofInt v), .int (Int32.ofInt v)]) rfl ?_
  exact lv_icmp_eq (tgt := 1198) hx hb d_law_920 (by decide) (fun _ => kk σ2 H2 locs2 hX2 hP2 hS2) (fun z => absurd rfl z)
theorem lw_c_dual {p : Program} {l : Launch} {e : Env} {s : State} {m : MethodId} {b L : Nat} {xs : Nat → Int32} {below : List Frame} {meth : Method} {c : Code} {ad : Nat → Int → Nat} {cA : Nat → ClassId} {D : va_G} {ls : Array Slot} {H : Heap} {locs : List Loc} {σ : en_m} {Q : State → Prop} {cells slots : Nat} {x3 : Int32} (OK : en_OK) (WK : en_WK l) (C : lw_C p s m meth c b L xs cA D) (hrm : cells ≤ room_1.cells ∧ slots ≤ room_1.slots) (hin1 : vp_in (x3 + 1) L) (hin2 : vp_in (x3 + 2) L) (hin3 : vp_in (x3 + 3) L) (hin4 : vp_in (x3 + 4) L) (hin5 : vp_in (x3 + 5) L) (hl : lv_has ls 4 [(3, .int x3), (0, .ref b), (1, .ref (ad r_WA 0)), (2, .ref (ad r_Md 0))]) (hP : va_P D classes (en_W ad cA σ) H) (hD : va_D (fun q => s.heap.size ≤ q) (en_W ad cA σ)) (hS : va_S (fun q => s.heap.size ≤ q) s.heap H locs) (hX : iX σ) (kk : ∀ (σ2 : en_m) (H2 : Heap) (locs2 : List Loc), iX σ2 → va_P D classes (en_W ad cA σ2) H2 → va_S (fun q => s.heap.size ≤ q) s.heap H2 locs2 → W p l e room_1 s m #[Value.ref b] below meth c H2 locs2 cells slots Q (F0 m 1198 ls [])) : W p l e room_1 s m #[Value.ref b] below meth c H locs cells slots Q (F0 m 925 ls []) := by
  obtain ⟨nn, DD, pp, LW, hV⟩ := hX
  obtain ⟨⟨hx, hb, hr, hml, hown, hts, hXs, hbl, hlocks, hgv⟩, hK, hXx⟩ := id C
  have hbA : ¬ (fun q : Nat => s.heap.size ≤ q) b := Nat.not_le.mpr hbl
  obtain ⟨r1, σ1, E2, M1⟩ := en_meth OK WK (a := z_X11_dual) (by decide) (lok_1 mem_WA) (Nat.le_of_ble_eq_true rfl) (eq_dual hV (i32_of (xs (x3 + 1).toNatClampNeg)))
  obtain ⟨r2, σ2, ⟨⟨v, hv1, hv2⟩, hX2⟩, M2⟩ := en_meth OK WK (a := z_X12_dual) (by decide) (lok_1 mem_Md) (Nat.le_of_ble_eq_true rfl) E2
  subst hv1 hv2
  refine lv_aload_n hx hb d_law_925 rfl (lv_at hl 2 rfl) ?_
  refine lv_aload_n hx hb d_law_926 rfl (lv_at hl 1 rfl) ?_
  refine lv_iload_n hx hb d_law_927 rfl (lv_at hl 0 rfl) ?_
  refine lv_iconst (v := 1) hx hb d_law_928 (by decide) ?_
  refine lv_iadd hx hb d_law_929 ?_
  refine va_sld hx hb hXs hbl hbA hS hin1 d_law_930 ?_
  refine lw_call OK (by decide) C hP hD hS hl.1 M1 mem_WA rfl rfl rfl rfl rfl lk1_dual ⟨Nat.le_of_ble_eq_true rfl, Nat.le_of_ble_eq_true rfl⟩ (Nat.le_of_ble_eq_true rfl) d_law_931 hrm lst_1 (fun H1 locs1 hP1 hS1 => ?_)
  refine lv_aload_n hx hb d_law_934 rfl (lv_at hl 3 rfl) ?_
  refine lv_aload_n hx hb d_law_935 rfl (lv_at hl 1 rfl) ?_
  refine lv_iload_n hx hb d_law_936 rfl (lv_at hl 0 rfl) ?_
  refine lv_iconst (v := 1) hx hb d_law_937 (by decide) ?_
  refine lv_iadd hx hb d_law_938 ?_
  refine va_sld hx hb hXs hbl hbA hS1 hin1 d_law_939 ?_
  refine lw_call OK (by decide) C hP1 (lw_D hD) hS1 hl.1 M2 mem_Md rfl rfl rfl rfl rfl lk2_dual ⟨Nat.le_of_ble_eq_true rfl, Nat.le_of_ble_eq_true rfl⟩ (Nat.le_of_ble_eq_true rfl) d_law_940 hrm lst_1 (fun H2 locs2 hP2 hS2 => ?_)
  refine W.eq (g2 := F0 m 943 ls [.int (Int32.ofInt v), .int (Int32.ofInt v)]) rfl ?_
  exact lv_icmp_eq (tgt := 1198) hx hb d_law_943 (by decide) (fun _ => kk σ2 H2 locs2 hX2 hP2 hS2) (fun z => absurd rfl z)
theorem lw_c_bent {p : Program} {l : Launch} {e : Env} {s : State} {m : MethodId} {b L : Nat} {xs : Nat → Int32} {below : List Frame} {meth : Method} {c : Code} {ad : Nat → Int → Nat} {cA : Nat → ClassId} {D : va_G} {ls : Array Slot} {H : Heap} {locs : List Loc} {σ : en_m} {Q : State → Prop} {cells slots : Nat} {x3 : Int32} (OK : en_OK) (WK : en_WK l) (C : lw_C p s m meth c b L xs cA D) (hrm : cells ≤ room_1.cells ∧ slots ≤ room_1.slots) (hin1 : vp_in (x3 + 1) L) (hin2 : vp_in (x3 + 2) L) (hin3 : vp_in (x3 + 3) L) (hin4 : vp_in (x3 + 4) L) (hin5 : vp_in (x3 + 5) L) (hl : lv_has ls 4 [(3, .int x3), (0, .ref b), (1, .ref (ad r_WA 0)), (2, .ref (ad r_Md 0))]) (hP : va_P D classes (en_W ad cA σ) H) (hD : va_D (fun q => s.heap.size ≤ q) (en_W ad cA σ)) (hS : va_S (fun q => s.heap.size ≤ q) s.heap H locs) (hX : iX σ) (kk : ∀ (σ2 : en_m) (H2 : Heap) (locs2 : List Loc), iX σ2 → va_P D classes (en_W ad cA σ2) H2 → va_S (fun q => s.heap.size ≤ q) s.heap H2 locs2 → W p l e room_1 s m #[Value.ref b] below meth c H2 locs2 cells slots Q (F0 m 1198 ls [])) : W p l e room_1 s m #[Value.ref b] below meth c H locs cells slots Q (F0 m 948 ls []) := by
  obtain ⟨nn, DD, pp, LW, hV⟩ := hX
  obtain ⟨⟨hx, hb, hr, hml, hown, hts, hXs, hbl, hlocks, hgv⟩, hK, hXx⟩ := id C
  have hbA : ¬ (fun q : Nat => s.heap.size ≤ q) b := Nat.not_le.mpr hbl
  obtain ⟨r1, σ1, E2, M1⟩ := en_meth OK WK (a := z_X11_bent) (by decide) (lok_0 mem_WA) (Nat.le_of_ble_eq_true rfl) (eq_bent hV)
  obtain ⟨r2, σ2, ⟨⟨v, hv1, hv2⟩, hX2⟩, M2⟩ := en_meth OK WK (a := z_X12_bent) (by decide) (lok_0 mem_Md) (Nat.le_of_ble_eq_true rfl) E2
  subst hv1 hv2
  refine lv_aload_n hx hb d_law_948 rfl (lv_at hl 2 rfl) ?_
  refine lw_call OK (by decide) C hP hD hS hl.1 M1 mem_WA rfl rfl rfl rfl rfl lk1_bent ⟨Nat.le_of_ble_eq_true rfl, Nat.le_of_ble_eq_true rfl⟩ (Nat.le_of_ble_eq_true rfl) d_law_949 hrm lst_0 (fun H1 locs1 hP1 hS1 => ?_)
  refine lv_aload_n hx hb d_law_952 rfl (lv_at hl 3 rfl) ?_
  refine lw_call OK (by decide) C hP1 (lw_D hD) hS1 hl.1 M2 mem_Md rfl rfl rfl rfl rfl lk2_bent ⟨Nat.le_of_ble_eq_true rfl, Nat.le_of_ble_eq_true rfl⟩ (Nat.le_of_ble_eq_true rfl) d_law_953 hrm lst_0 (fun H2 locs2 hP2 hS2 => ?_)
  refine W.eq (g2 := F0 m 956 ls [.int (Int32.ofInt v), .int (Int32.ofInt v)]) rfl ?_
  exact lv_icmp_eq (tgt := 1198) hx hb d_law_956 (by decide) (fun _ => kk σ2 H2 locs2 hX2 hP2 hS2) (fun z => absurd rfl z)
theorem lw_c_inverse {p : Program} {l : Launch} {e : Env} {s : State} {m : MethodId} {b L : Nat} {xs : Nat → Int32} {below : List Frame} {meth : Method} {c : Code} {ad : Nat → Int → Nat} {cA : Nat → ClassId} {D : va_G} {ls : Array Slot} {H : Heap} {locs : List Loc} {σ : en_m} {Q : State → Prop} {cells slots : Nat} {x3 : Int32} (OK : en_OK) (WK : en_WK l) (C : lw_C p s m meth c b L xs cA D) (hrm : cells ≤ room_1.cells ∧ slots ≤ room_1.slots) (hin1 : vp_in (x3 + 1) L) (hin2 : vp_in (x3 + 2) L) (hin3 : vp_in (x3 + 3) L) (hin4 : vp_in (x3 + 4) L) (hin5 : vp_in (x3 + 5) L) (hl : lv_has ls 4 [(3, .int x3), (0, .ref b), (1, .ref (ad r_WA 0)), (2, .ref (ad r_Md 0))]) (hP : va_P D classes (en_W ad cA σ) H) (hD : va_D (fun q => s.heap.size ≤ q) (en_W ad cA σ)) (hS : va_S (fun q => s.heap.size ≤ q) s.heap H locs) (hX : iX σ) (kk : ∀ (σ2 : en_m) (H2 : Heap) (locs2 : List Loc), iX σ2 → va_P D classes (en_W ad cA σ2) H2 → va_S (fun q => s.heap.size ≤ q) s.heap H2 locs2 → W p l e room_1 s m #[Value.ref b] below meth c H2 locs2 cells slots Q (F0 m 1198 ls [])) : W p l e room_1 s m #[Value.ref b] below meth c H locs cells slots Q (F0 m 961 ls []) := by
  obtain ⟨nn, DD, pp, LW, hV⟩ := hX
  obtain ⟨⟨hx, hb, hr, hml, hown, hts, hXs, hbl, hlocks, hgv⟩, hK, hXx⟩ := id C
  have hbA : ¬ (fun q : Nat => s.heap.size ≤ q) b := Nat.not_le.mpr hbl
  obtain ⟨r1, σ1, E2, M1⟩ := en_meth OK WK (a := z_X11_inverse) (by decide) (lok_1 mem_WA) (Nat.le_of_ble_eq_true rfl) (eq_inverse hV (i32_of (xs (x3 + 1).toNatClampNeg)))
  obtain ⟨r2, σ2, ⟨⟨v, hv1, hv2⟩, hX2⟩, M2⟩ := en_meth OK WK (a := z_X12_inverse) (by decide) (lok_1 mem_Md) (Nat.le_of_ble_eq_true rfl) E2
  subst hv1 hv2
  refine lv_aload_n hx hb d_law_961 rfl (lv_at hl 2 rfl) ?_
  refine lv_aload_n hx hb d_law_962 rfl (lv_at hl 1 rfl) ?_
  refine lv_iload_n hx hb d_law_963 rfl (lv_at hl 0 rfl) ?_
  refine lv_iconst (v := 1) hx hb d_law_964 (by decide) ?_
  refine lv_iadd hx hb d_law_965 ?_
  refine va_sld hx hb hXs hbl hbA hS hin1 d_law_966 ?_
  refine lw_call OK (by decide) C hP hD hS hl.1 M1 mem_WA rfl rfl rfl rfl rfl lk1_inverse ⟨Nat.le_of_ble_eq_true rfl, Nat.le_of_ble_eq_true rfl⟩ (Nat.le_of_ble_eq_true rfl) d_law_967 hrm lst_1 (fun H1 locs1 hP1 hS1 => ?_)
  refine lv_aload_n hx hb d_law_970 rfl (lv_at hl 3 rfl) ?_
  refine lv_aload_n hx hb d_law_971 rfl (lv_at hl 1 rfl) ?_
  refine lv_iload_n hx hb d_law_972 rfl (lv_at hl 0 rfl) ?_
  refine lv_iconst (v := 1) hx hb d_law_973 (by decide) ?_
  refine lv_iadd hx hb d_law_974 ?_
  refine va_sld hx hb hXs hbl hbA hS1 hin1 d_law_975 ?_
  refine lw_call OK (by decide) C hP1 (lw_D hD) hS1 hl.1 M2 mem_Md rfl rfl rfl rfl rfl lk2_inverse ⟨Nat.le_of_ble_eq_true rfl, Nat.le_of_ble_eq_true rfl⟩ (Nat.le_of_ble_eq_true rfl) d_law_976 hrm lst_1 (fun H2 locs2 hP2 hS2 => ?_)
  refine W.eq (g2 := F0 m 979 ls [.long (Int64.ofInt v), .long (Int64.ofInt v)]) rfl ?_
  refine W.lcmp hx hb d_law_979 ?_
  rw [nu_cmp, if_neg (Int.lt_irrefl _), if_neg (Int.lt_irrefl _)]
  exact lv_if_eq (tgt := 1198) hx hb d_law_980 (by decide) (fun _ => kk σ2 H2 locs2 hX2 hP2 hS2) (fun z => absurd rfl z)
theorem lw_c_centre {p : Program} {l : Launch} {e : Env} {s : State} {m : MethodId} {b L : Nat} {xs : Nat → Int32} {below : List Frame} {meth : Method} {c : Code} {ad : Nat → Int → Nat} {cA : Nat → ClassId} {D : va_G} {ls : Array Slot} {H : Heap} {locs : List Loc} {σ : en_m} {Q : State → Prop} {cells slots : Nat} {x3 : Int32} (OK : en_OK) (WK : en_WK l) (C : lw_C p s m meth c b L xs cA D) (hrm : cells ≤ room_1.cells ∧ slots ≤ room_1.slots) (hin1 : vp_in (x3 + 1) L) (hin2 : vp_in (x3 + 2) L) (hin3 : vp_in (x3 + 3) L) (hin4 : vp_in (x3 + 4) L) (hin5 : vp_in (x3 + 5) L) (hl : lv_has ls 4 [(3, .int x3), (0, .ref b), (1, .ref (ad r_WA 0)), (2, .ref (ad r_Md 0))]) (hP : va_P D classes (en_W ad cA σ) H) (hD : va_D (fun q => s.heap.size ≤ q) (en_W ad cA σ)) (hS : va_S (fun q => s.heap.size ≤ q) s.heap H locs) (hX : iX σ) (kk : ∀ (σ2 : en_m) (H2 : Heap) (locs2 : List Loc), iX σ2 → va_P D classes (en_W ad cA σ2) H2 → va_S (fun q => s.heap.size ≤ q) s.heap H2 locs2 → W p l e room_1 s m #[Value.ref b] below meth c H2 locs2 cells slots Q (F0 m 1198 ls [])) : W p l e room_1 s m #[Value.ref b] below meth c H locs cells slots Q (F0 m 985 ls []) := by
  obtain ⟨nn, DD, pp, LW, hV⟩ := hX
  obtain ⟨⟨hx, hb, hr, hml, hown, hts, hXs, hbl, hlocks, hgv⟩, hK, hXx⟩ := id C
  have hbA : ¬ (fun q : Nat => s.heap.size ≤ q) b := Nat.not_le.mpr hbl
  obtain ⟨r1, σ1, E2, M1⟩ := en_meth OK WK (a := z_X11_centre) (by decide) (lok_1 mem_WA) (Nat.le_of_ble_eq_true rfl) (eq_centre hV (i32_of (xs (x3 + 1).toNatClampNeg)))
  obtain ⟨r2, σ2, ⟨⟨v, hv1, hv2⟩, hX2⟩, M2⟩ := en_meth OK WK (a := z_X12_centre) (by decide) (lok_1 mem_Md) (Nat.le_of_ble_eq_true rfl) E2
  subst hv1 hv2
  refine lv_aload_n hx hb d_law_985 rfl (lv_at hl 2 rfl) ?_
  refine lv_aload_n hx hb d_law_986 rfl (lv_at hl 1 rfl) ?_
  refine lv_iload_n hx hb d_law_987 rfl (lv_at hl 0 rfl) ?_
  refine lv_iconst (v := 1) hx hb d_law_988 (by decide) ?_
  refine lv_iadd hx hb d_law_989 ?_
  refine va_sld hx hb hXs hbl hbA hS hin1 d_law_990 ?_
  refine lw_call OK (by decide) C hP hD hS hl.1 M1 mem_WA rfl rfl rfl rfl rfl lk1_centre ⟨Nat.le_of_ble_eq_true rfl, Nat.le_of_ble_eq_true rfl⟩ (Nat.le_of_ble_eq_true rfl) d_law_991 hrm lst_1 (fun H1 locs1 hP1 hS1 => ?_)
  refine lv_aload_n hx hb d_law_994 rfl (lv_at hl 3 rfl) ?_
  refine lv_aload_n hx hb d_law_995 rfl (lv_at hl 1 rfl) ?_
  refine lv_iload_n hx hb d_law_996 rfl (lv_at hl 0 rfl) ?_
  refine lv_iconst (v := 1) hx hb d_law_997 (by decide) ?_
  refine lv_iadd hx hb d_law_998 ?_
  refine va_sld hx hb hXs hbl hbA hS1 hin1 d_law_999 ?_
  refine lw_call OK (by decide) C hP1 (lw_D hD) hS1 hl.1 M2 mem_Md rfl rfl rfl rfl rfl lk2_centre ⟨Nat.le_of_ble_eq_true rfl, Nat.le_of_ble_eq_true rfl⟩ (Nat.le_of_ble_eq_true rfl) d_law_1000 hrm lst_1 (fun H2 locs2 hP2 hS2 => ?_)
  refine W.eq (g2 := F0 m 1003 ls [.int (Int32.ofInt v), .int (Int32.ofInt v)]) rfl ?_
  exact lv_icmp_eq (tgt := 1198) hx hb d_law_1003 (by decide) (fun _ => kk σ2 H2 locs2 hX2 hP2 hS2) (fun z => absurd rfl z)
theorem lw_c_rank {p : Program} {l : Launch} {e : Env} {s : State} {m : MethodId} {b L : Nat} {xs : Nat → Int32} {below : List Frame} {meth : Method} {c : Code} {ad : Nat → Int → Nat} {cA : Nat → ClassId} {D : va_G} {ls : Array Slot} {H : Heap} {locs : List Loc} {σ : en_m} {Q : State → Prop} {cells slots : Nat} {x3 : Int32} (OK : en_OK) (WK : en_WK l) (C : lw_C p s m meth c b L xs cA D) (hrm : cells ≤ room_1.cells ∧ slots ≤ room_1.slots) (hin1 : vp_in (x3 + 1) L) (hin2 : vp_in (x3 + 2) L) (hin3 : vp_in (x3 + 3) L) (hin4 : vp_in (x3 + 4) L) (hin5 : vp_in (x3 + 5) L) (hl : lv_has ls 4 [(3, .int x3), (0, .ref b), (1, .ref (ad r_WA 0)), (2, .ref (ad r_Md 0))]) (hP : va_P D classes (en_W ad cA σ) H) (hD : va_D (fun q => s.heap.size ≤ q) (en_W ad cA σ)) (hS : va_S (fun q => s.heap.size ≤ q) s.heap H locs) (hX : iX σ) (kk : ∀ (σ2 : en_m) (H2 : Heap) (locs2 : List Loc), iX σ2 → va_P D classes (en_W ad cA σ2) H2 → va_S (fun q => s.heap.size ≤ q) s.heap H2 locs2 → W p l e room_1 s m #[Value.ref b] below meth c H2 locs2 cells slots Q (F0 m 1198 ls [])) : W p l e room_1 s m #[Value.ref b] below meth c H locs cells slots Q (F0 m 1008 ls []) := by
  obtain ⟨nn, DD, pp, LW, hV⟩ := hX
  obtain ⟨⟨hx, hb, hr, hml, hown, hts, hXs, hbl, hlocks, hgv⟩, hK, hXx⟩ := id C
  have hbA : ¬ (fun q : Nat => s.heap.size ≤ q) b := Nat.not_le.mpr hbl
  by_cases c3 : xs (x3 + 3).toNatClampNeg = 0
  · obtain ⟨r1, σ1, E2, M1⟩ := en_meth OK WK (a := z_X11_rank) (by decide) (lok_3 mem_WA) (Nat.le_of_ble_eq_true rfl) (eq_rank hV (i32_of (xs (x3 + 1).toNatClampNeg)) (i32_of (xs (x3 + 2).toNatClampNeg)) (i32_of 0))
    obtain ⟨r2, σ2, ⟨⟨v, hv1, hv2⟩, hX2⟩, M2⟩ := en_meth OK WK (a := z_X12_rank) (by decide) (lok_3 mem_Md) (Nat.le_of_ble_eq_true rfl) E2
    subst hv1 hv2
    refine lv_aload_n hx hb d_law_1008 rfl (lv_at hl 2 rfl) ?_
    refine lv_aload_n hx hb d_law_1009 rfl (lv_at hl 1 rfl) ?_
    refine lv_iload_n hx hb d_law_1010 rfl (lv_at hl 0 rfl) ?_
    refine lv_iconst (v := 1) hx hb d_law_1011 (by decide) ?_
    refine lv_iadd hx hb d_law_1012 ?_
    refine va_sld hx hb hXs hbl hbA hS hin1 d_law_1013 ?_
    refine lv_aload_n hx hb d_law_1014 rfl (lv_at hl 1 rfl) ?_
    refine lv_iload_n hx hb d_law_1015 rfl (lv_at hl 0 rfl) ?_
    refine lv_iconst (v := 2) hx hb d_law_1016 (by decide) ?_
    refine lv_iadd hx hb d_law_1017 ?_
    refine va_sld hx hb hXs hbl hbA hS hin2 d_law_1018 ?_
    refine lv_aload_n hx hb d_law_1019 rfl (lv_at hl 1 rfl) ?_
    refine lv_iload_n hx hb d_law_1020 rfl (lv_at hl 0 rfl) ?_
    refine lv_iconst (v := 3) hx hb d_law_1021 (by decide) ?_
    refine lv_iadd hx hb d_law_1022 ?_
    refine va_sld hx hb hXs hbl hbA hS hin3 d_law_1023 ?_
    refine lv_if_eq (tgt := 1031) hx hb d_law_1024 (by decide) (fun _ => ?_) (fun z => absurd c3 z)
    refine lv_iconst (v := 0) hx hb d_law_1031 (by decide) ?_
    refine lw_call OK (by decide) C hP hD hS hl.1 M1 mem_WA rfl rfl rfl rfl rfl lk1_rank ⟨Nat.le_of_ble_eq_true rfl, Nat.le_of_ble_eq_true rfl⟩ (Nat.le_of_ble_eq_true rfl) d_law_1032 hrm lst_3 (fun H1 locs1 hP1 hS1 => ?_)
    refine lv_aload_n hx hb d_law_1035 rfl (lv_at hl 3 rfl) ?_
    refine lv_aload_n hx hb d_law_1036 rfl (lv_at hl 1 rfl) ?_
    refine lv_iload_n hx hb d_law_1037 rfl (lv_at hl 0 rfl) ?_
    refine lv_iconst (v := 1) hx hb d_law_1038 (by decide) ?_
    refine lv_iadd hx hb d_law_1039 ?_
    refine va_sld hx hb hXs hbl hbA hS1 hin1 d_law_1040 ?_
    refine lv_aload_n hx hb d_law_1041 rfl (lv_at hl 1 rfl) ?_
    refine lv_iload_n hx hb d_law_1042 rfl (lv_at hl 0 rfl) ?_
    refine lv_iconst (v := 2) hx hb d_law_1043 (by decide) ?_
    refine lv_iadd hx hb d_law_1044 ?_
    refine va_sld hx hb hXs hbl hbA hS1 hin2 d_law_1045 ?_
    refine lv_aload_n hx hb d_law_1046 rfl (lv_at hl 1 rfl) ?_
    refine lv_iload_n hx hb d_law_1047 rfl (lv_at hl 0 rfl) ?_
    refine lv_iconst (v := 3) hx hb d_law_1048 (by decide) ?_
    refine lv_iadd hx hb d_law_1049 ?_
    refine va_sld hx hb hXs hbl hbA hS1 hin3 d_law_1050 ?_
    refine lv_if_eq (tgt := 1058) hx hb d_law_1051 (by decide) (fun _ => ?_) (fun z => absurd c3 z)
    refine lv_iconst (v := 0) hx hb d_law_1058 (by decide) ?_
    refine lw_call OK (by decide) C hP1 (lw_D hD) hS1 hl.1 M2 mem_Md rfl rfl rfl rfl rfl lk2_rank ⟨Nat.le_of_ble_eq_true rfl, Nat.le_of_ble_eq_true rfl⟩ (Nat.le_of_ble_eq_true rfl) d_law_1059 hrm lst_3 (fun H2 locs2 hP2 hS2 => ?_)
    refine W.eq (g2 := F0 m 1062 ls [.int (Int32.ofInt v), .int (Int32.ofInt v)]) rfl ?_
    exact lv_icmp_eq (tgt := 1198) hx hb d_law_1062 (by decide) (fun _ => kk σ2 H2 locs2 hX2 hP2 hS2) (fun z => absurd rfl z)
  · obtain ⟨r1, σ1, E2, M1⟩ := en_meth OK WK (a := z_X11_rank) (by decide) (lok_3 mem_WA) (Nat.le_of_ble_eq_true rfl) (eq_rank hV (i32_of (xs (x3 + 1).toNatClampNeg)) (i32_of (xs (x3 + 2).toNatClampNeg)) (i32_of 1))
    obtain ⟨r2, σ2, ⟨⟨v, hv1, hv2⟩, hX2⟩, M2⟩ := en_meth OK WK (a := z_X12_rank) (by decide) (lok_3 mem_Md) (Nat.le_of_ble_eq_true rfl) E2
    subst hv1 hv2
    refine lv_aload_n hx hb d_law_1008 rfl (lv_at hl 2 rfl) ?_
    refine lv_aload_n hx hb d_law_1009 rfl (lv_at hl 1 rfl) ?_
    refine lv_iload_n hx hb d_law_1010 rfl (lv_at hl 0 rfl) ?_
    refine lv_iconst (v := 1) hx hb d_law_1011 (by decide) ?_
    refine lv_iadd hx hb d_law_1012 ?_
    refine va_sld hx hb hXs hbl hbA hS hin1 d_law_1013 ?_
    refine lv_aload_n hx hb d_law_1014 rfl (lv_at hl 1 rfl) ?_
    refine lv_iload_n hx hb d_law_1015 rfl (lv_at hl 0 rfl) ?_
    refine lv_iconst (v := 2) hx hb d_law_1016 (by decide) ?_
    refine lv_iadd hx hb d_law_1017 ?_
    refine va_sld hx hb hXs hbl hbA hS hin2 d_law_1018 ?_
    refine lv_aload_n hx hb d_law_1019 rfl (lv_at hl 1 rfl) ?_
    refine lv_iload_n hx hb d_law_1020 rfl (lv_at hl 0 rfl) ?_
    refine lv_iconst (v := 3) hx hb d_law_1021 (by decide) ?_
    refine lv_iadd hx hb d_law_1022 ?_
    refine va_sld hx hb hXs hbl hbA hS hin3 d_law_1023 ?_
    refine lv_if_eq (tgt := 1031) hx hb d_law_1024 (by decide) (fun z => absurd z c3) (fun _ => ?_)
    refine lv_iconst (v := 1) hx hb d_law_1027 (by decide) ?_
    refine lv_goto (tgt := 1032) hx hb d_law_1028 (by decide) ?_
    refine lw_call OK (by decide) C hP hD hS hl.1 M1 mem_WA rfl rfl rfl rfl rfl lk1_rank ⟨Nat.le_of_ble_eq_true rfl, Nat.le_of_ble_eq_true rfl⟩ (Nat.le_of_ble_eq_true rfl) d_law_1032 hrm lst_3 (fun H1 locs1 hP1 hS1 => ?_)
    refine lv_aload_n hx hb d_law_1035 rfl (lv_at hl 3 rfl) ?_
    refine lv_aload_n hx hb d_law_1036 rfl (lv_at hl 1 rfl) ?_
    refine lv_iload_n hx hb d_law_1037 rfl (lv_at hl 0 rfl) ?_
    refine lv_iconst (v := 1) hx hb d_law_1038 (by decide) ?_
    refine lv_iadd hx hb d_law_1039 ?_
    refine va_sld hx hb hXs hbl hbA hS1 hin1 d_law_1040 ?_
    refine lv_aload_n hx hb d_law_1041 rfl (lv_at hl 1 rfl) ?_
    refine lv_iload_n hx hb d_law_1042 rfl (lv_at hl 0 rfl) ?_
    refine lv_iconst (v := 2) hx hb d_law_1043 (by decide) ?_
    refine lv_iadd hx hb d_law_1044 ?_
    refine va_sld hx hb hXs hbl hbA hS1 hin2 d_law_1045 ?_
    refine lv_aload_n hx hb d_law_1046 rfl (lv_at hl 1 rfl) ?_
    refine lv_iload_n hx hb d_law_1047 rfl (lv_at hl 0 rfl) ?_
    refine lv_iconst (v := 3) hx hb d_law_1048 (by decide) ?_
    refine lv_iadd hx hb d_law_1049 ?_
    refine va_sld hx hb hXs hbl hbA hS1 hin3 d_law_1050 ?_
    refine lv_if_eq (tgt := 1058) hx hb d_law_1051 (by decide) (fun z => absurd z c3) (fun _ => ?_)
    refine lv_iconst (v := 1) hx hb d_law_1054 (by decide) ?_
    refine lv_goto (tgt := 1059) hx hb d_law_1055 (by decide) ?_
    refine lw_call OK (by decide) C hP1 (lw_D hD) hS1 hl.1 M2 mem_Md rfl rfl rfl rfl rfl lk2_rank ⟨Nat.le_of_ble_eq_true rfl, Nat.le_of_ble_eq_true rfl⟩ (Nat.le_of_ble_eq_true rfl) d_law_1059 hrm lst_3 (fun H2 locs2 hP2 hS2 => ?_)
    refine W.eq (g2 := F0 m 1062 ls [.int (Int32.ofInt v), .int (Int32.ofInt v)]) rfl ?_
    exact lv_icmp_eq (tgt := 1198) hx hb d_law_1062 (by decide) (fun _ => kk σ2 H2 locs2 hX2 hP2 hS2) (fun z => absurd rfl z)
theorem lw_c_points {p : Program} {l : Launch} {e : Env} {s : State} {m : MethodId} {b L : Nat} {xs : Nat → Int32} {below : List Frame} {meth : Method} {c : Code} {ad : Nat → Int → Nat} {cA : Nat → ClassId} {D : va_G} {ls : Array Slot} {H : Heap} {locs : List Loc} {σ : en_m} {Q : State → Prop} {cells slots : Nat} {x3 : Int32} (OK : en_OK) (WK : en_WK l) (C : lw_C p s m meth c b L xs cA D) (hrm : cells ≤ room_1.cells ∧ slots ≤ room_1.slots) (hin1 : vp_in (x3 + 1) L) (hin2 : vp_in (x3 + 2) L) (hin3 : vp_in (x3 + 3) L) (hin4 : vp_in (x3 + 4) L) (hin5 : vp_in (x3 + 5) L) (hl : lv_has ls 4 [(3, .int x3), (0, .ref b), (1, .ref (ad r_WA 0)), (2, .ref (ad r_Md 0))]) (hP : va_P D classes (en_W ad cA σ) H) (hD : va_D (fun q => s.heap.size ≤ q) (en_W ad cA σ)) (hS : va_S (fun q => s.heap.size ≤ q) s.heap H locs) (hX : iX σ) (kk : ∀ (σ2 : en_m) (H2 : Heap) (locs2 : List Loc), iX σ2 → va_P D classes (en_W ad cA σ2) H2 → va_S (fun q => s.heap.size ≤ q) s.heap H2 locs2 → W p l e room_1 s m #[Value.ref b] below meth c H2 locs2 cells slots Q (F0 m 1198 ls [])) : W p l e room_1 s m #[Value.ref b] below meth c H locs cells slots Q (F0 m 1067 ls []) := by
  obtain ⟨nn, DD, pp, LW, hV⟩ := hX
  obtain ⟨⟨hx, hb, hr, hml, hown, hts, hXs, hbl, hlocks, hgv⟩, hK, hXx⟩ := id C
  have hbA : ¬ (fun q : Nat => s.heap.size ≤ q) b := Nat.not_le.mpr hbl
  obtain ⟨r1, σ1, E2, M1⟩ := en_meth OK WK (a := z_X11_points) (by decide) (lok_0 mem_WA) (Nat.le_of_ble_eq_true rfl) (eq_points hV)
  obtain ⟨r2, σ2, ⟨⟨v, hv1, hv2⟩, hX2⟩, M2⟩ := en_meth OK WK (a := z_X12_points) (by decide) (lok_0 mem_Md) (Nat.le_of_ble_eq_true rfl) E2
  subst hv1 hv2
  refine lv_aload_n hx hb d_law_1067 rfl (lv_at hl 2 rfl) ?_
  refine lw_call OK (by decide) C hP hD hS hl.1 M1 mem_WA rfl rfl rfl rfl rfl lk1_points ⟨Nat.le_of_ble_eq_true rfl, Nat.le_of_ble_eq_true rfl⟩ (Nat.le_of_ble_eq_true rfl) d_law_1068 hrm lst_0 (fun H1 locs1 hP1 hS1 => ?_)
  refine lv_aload_n hx hb d_law_1071 rfl (lv_at hl 3 rfl) ?_
  refine lw_call OK (by decide) C hP1 (lw_D hD) hS1 hl.1 M2 mem_Md rfl rfl rfl rfl rfl lk2_points ⟨Nat.le_of_ble_eq_true rfl, Nat.le_of_ble_eq_true rfl⟩ (Nat.le_of_ble_eq_true rfl) d_law_1072 hrm lst_0 (fun H2 locs2 hP2 hS2 => ?_)
  refine W.eq (g2 := F0 m 1075 ls [.int (Int32.ofInt v), .int (Int32.ofInt v)]) rfl ?_
  exact lv_icmp_eq (tgt := 1198) hx hb d_law_1075 (by decide) (fun _ => kk σ2 H2 locs2 hX2 hP2 hS2) (fun z => absurd rfl z)
theorem lw_c_modules {p : Program} {l : Launch} {e : Env} {s : State} {m : MethodId} {b L : Nat} {xs : Nat → Int32} {below : List Frame} {meth : Method} {c : Code} {ad : Nat → Int → Nat} {cA : Nat → ClassId} {D : va_G} {ls : Array Slot} {H : Heap} {locs : List Loc} {σ : en_m} {Q : State → Prop} {cells slots : Nat} {x3 : Int32} (OK : en_OK) (WK : en_WK l) (C : lw_C p s m meth c b L xs cA D) (hrm : cells ≤ room_1.cells ∧ slots ≤ room_1.slots) (hin1 : vp_in (x3 + 1) L) (hin2 : vp_in (x3 + 2) L) (hin3 : vp_in (x3 + 3) L) (hin4 : vp_in (x3 + 4) L) (hin5 : vp_in (x3 + 5) L) (hl : lv_has ls 4 [(3, .int x3), (0, .ref b), (1, .ref (ad r_WA 0)), (2, .ref (ad r_Md 0))]) (hP : va_P D classes (en_W ad cA σ) H) (hD : va_D (fun q => s.heap.size ≤ q) (en_W ad cA σ)) (hS : va_S (fun q => s.heap.size ≤ q) s.heap H locs) (hX : iX σ) (kk : ∀ (σ2 : en_m) (H2 : Heap) (locs2 : List Loc), iX σ2 → va_P D classes (en_W ad cA σ2) H2 → va_S (fun q => s.heap.size ≤ q) s.heap H2 locs2 → W p l e room_1 s m #[Value.ref b] below meth c H2 locs2 cells slots Q (F0 m 1198 ls [])) : W p l e room_1 s m #[Value.ref b] below meth c H locs cells slots Q (F0 m 1080 ls []) := by
  obtain ⟨nn, DD, pp, LW, hV⟩ := hX
  obtain ⟨⟨hx, hb, hr, hml, hown, hts, hXs, hbl, hlocks, hgv⟩, hK, hXx⟩ := id C
  have hbA : ¬ (fun q : Nat => s.heap.size ≤ q) b := Nat.not_le.mpr hbl
  obtain ⟨r1, σ1, E2, M1⟩ := en_meth OK WK (a := z_X11_modules) (by decide) (lok_0 mem_WA) (Nat.le_of_ble_eq_true rfl) (eq_modules hV)
  obtain ⟨r2, σ2, ⟨⟨v, hv1, hv2⟩, hX2⟩, M2⟩ := en_meth OK WK (a := z_X12_modules) (by decide) (lok_0 mem_Md) (Nat.le_of_ble_eq_true rfl) E2
  subst hv1 hv2
  refine lv_aload_n hx hb d_law_1080 rfl (lv_at hl 2 rfl) ?_
  refine lw_call OK (by decide) C hP hD hS hl.1 M1 mem_WA rfl rfl rfl rfl rfl lk1_modules ⟨Nat.le_of_ble_eq_true rfl, Nat.le_of_ble_eq_true rfl⟩ (Nat.le_of_ble_eq_true rfl) d_law_1081 hrm lst_0 (fun H1 locs1 hP1 hS1 => ?_)
  refine lv_aload_n hx hb d_law_1084 rfl (lv_at hl 3 rfl) ?_
  refine lw_call OK (by decide) C hP1 (lw_D hD) hS1 hl.1 M2 mem_Md rfl rfl rfl rfl rfl lk2_modules ⟨Nat.le_of_ble_eq_true rfl, Nat.le_of_ble_eq_true rfl⟩ (Nat.le_of_ble_eq_true rfl) d_law_1085 hrm lst_0 (fun H2 locs2 hP2 hS2 => ?_)
  refine W.eq (g2 := F0 m 1088 ls [.int (Int32.ofInt v), .int (Int32.ofInt v)]) rfl ?_
  exact lv_icmp_eq (tgt := 1198) hx hb d_law_1088 (by decide) (fun _ => kk σ2 H2 locs2 hX2 hP2 hS2) (fun z => absurd rfl z)
theorem lw_c_weight {p : Program} {l : Launch} {e : Env} {s : State} {m : MethodId} {b L : Nat} {xs : Nat → Int32} {below : List Frame} {meth : Method} {c : Code} {ad : Nat → Int → Nat} {cA : Nat → ClassId} {D : va_G} {ls : Array Slot} {H : Heap} {locs : List Loc} {σ : en_m} {Q : State → Prop} {cells slots : Nat} {x3 : Int32} (OK : en_OK) (WK : en_WK l) (C : lw_C p s m meth c b L xs cA D) (hrm : cells ≤ room_1.cells ∧ slots ≤ room_1.slots) (hin1 : vp_in (x3 + 1) L) (hin2 : vp_in (x3 + 2) L) (hin3 : vp_in (x3 + 3) L) (hin4 : vp_in (x3 + 4) L) (hin5 : vp_in (x3 + 5) L) (hl : lv_has ls 4 [(3, .int x3), (0, .ref b), (1, .ref (ad r_WA 0)), (2, .ref (ad r_Md 0))]) (hP : va_P D classes (en_W ad cA σ) H) (hD : va_D (fun q => s.heap.size ≤ q) (en_W ad cA σ)) (hS : va_S (fun q => s.heap.size ≤ q) s.heap H locs) (hX : iX σ) (kk : ∀ (σ2 : en_m) (H2 : Heap) (locs2 : List Loc), iX σ2 → va_P D classes (en_W ad cA σ2) H2 → va_S (fun q => s.heap.size ≤ q) s.heap H2 locs2 → W p l e room_1 s m #[Value.ref b] below meth c H2 locs2 cells slots Q (F0 m 1198 ls [])) : W p l e room_1 s m #[Value.ref b] below meth c H locs cells slots Q (F0 m 1093 ls []) := by
  obtain ⟨nn, DD, pp, LW, hV⟩ := hX
  obtain ⟨⟨hx, hb, hr, hml, hown, hts, hXs, hbl, hlocks, hgv⟩, hK, hXx⟩ := id C
  have hbA : ¬ (fun q : Nat => s.heap.size ≤ q) b := Nat.not_le.mpr hbl
  obtain ⟨r1, σ1, E2, M1⟩ := en_meth OK WK (a := z_X11_weight) (by decide) (lok_0 mem_WA) (Nat.le_of_ble_eq_true rfl) (eq_weight hV)
  obtain ⟨r2, σ2, ⟨⟨v, hv1, hv2⟩, hX2⟩, M2⟩ := en_meth OK WK (a := z_X12_weight) (by decide) (lok_0 mem_Md) (Nat.le_of_ble_eq_true rfl) E2
  subst hv1 hv2
  refine lv_aload_n hx hb d_law_1093 rfl (lv_at hl 2 rfl) ?_
  refine lw_call OK (by decide) C hP hD hS hl.1 M1 mem_WA rfl rfl rfl rfl rfl lk1_weight ⟨Nat.le_of_ble_eq_true rfl, Nat.le_of_ble_eq_true rfl⟩ (Nat.le_of_ble_eq_true rfl) d_law_1094 hrm lst_0 (fun H1 locs1 hP1 hS1 => ?_)
  refine lv_aload_n hx hb d_law_1097 rfl (lv_at hl 3 rfl) ?_
  refine lw_call OK (by decide) C hP1 (lw_D hD) hS1 hl.1 M2 mem_Md rfl rfl rfl rfl rfl lk2_weight ⟨Nat.le_of_ble_eq_true rfl, Nat.le_of_ble_eq_true rfl⟩ (Nat.le_of_ble_eq_true rfl) d_law_1098 hrm lst_0 (fun H2 locs2 hP2 hS2 => ?_)
  refine W.eq (g2 := F0 m 1101 ls [.int (Int32.ofInt v), .int (Int32.ofInt v)]) rfl ?_
  exact lv_icmp_eq (tgt := 1198) hx hb d_law_1101 (by decide) (fun _ => kk σ2 H2 locs2 hX2 hP2 hS2) (fun z => absurd rfl z)
theorem lw_c_trace {p : Program} {l : Launch} {e : Env} {s : State} {m : MethodId} {b L : Nat} {xs : Nat → Int32} {below : List Frame} {meth : Method} {c : Code} {ad : Nat → Int → Nat} {cA : Nat → ClassId} {D : va_G} {ls : Array Slot} {H : Heap} {locs : List Loc} {σ : en_m} {Q : State → Prop} {cells slots : Nat} {x3 : Int32} (OK : en_OK) (WK : en_WK l) (C : lw_C p s m meth c b L xs cA D) (hrm : cells ≤ room_1.cells ∧ slots ≤ room_1.slots) (hin1 : vp_in (x3 + 1) L) (hin2 : vp_in (x3 + 2) L) (hin3 : vp_in (x3 + 3) L) (hin4 : vp_in (x3 + 4) L) (hin5 : vp_in (x3 + 5) L) (hl : lv_has ls 4 [(3, .int x3), (0, .ref b), (1, .ref (ad r_WA 0)), (2, .ref (ad r_Md 0))]) (hP : va_P D classes (en_W ad cA σ) H) (hD : va_D (fun q => s.heap.size ≤ q) (en_W ad cA σ)) (hS : va_S (fun q => s.heap.size ≤ q) s.heap H locs) (hX : iX σ) (kk : ∀ (σ2 : en_m) (H2 : Heap) (locs2 : List Loc), iX σ2 → va_P D classes (en_W ad cA σ2) H2 → va_S (fun q => s.heap.size ≤ q) s.heap H2 locs2 → W p l e room_1 s m #[Value.ref b] below meth c H2 locs2 cells slots Q (F0 m 1198 ls [])) : W p l e room_1 s m #[Value.ref b] below meth c H locs cells slots Q (F0 m 1106 ls []) := by
  obtain ⟨nn, DD, pp, LW, hV⟩ := hX
  obtain ⟨⟨hx, hb, hr, hml, hown, hts, hXs, hbl, hlocks, hgv⟩, hK, hXx⟩ := id C
  have hbA : ¬ (fun q : Nat => s.heap.size ≤ q) b := Nat.not_le.mpr hbl
  obtain ⟨r1, σ1, E2, M1⟩ := en_meth OK WK (a := z_X11_trace) (by decide) (lok_1 mem_WA) (Nat.le_of_ble_eq_true rfl) (eq_trace hV (i32_of (xs (x3 + 1).toNatClampNeg)))
  obtain ⟨r2, σ2, ⟨⟨v, hv1, hv2⟩, hX2⟩, M2⟩ := en_meth OK WK (a := z_X12_trace) (by decide) (lok_1 mem_Md) (Nat.le_of_ble_eq_true rfl) E2
  subst hv1 hv2
  refine lv_aload_n hx hb d_law_1106 rfl (lv_at hl 2 rfl) ?_
  refine lv_aload_n hx hb d_law_1107 rfl (lv_at hl 1 rfl) ?_
  refine lv_iload_n hx hb d_law_1108 rfl (lv_at hl 0 rfl) ?_
  refine lv_iconst (v := 1) hx hb d_law_1109 (by decide) ?_
  refine lv_iadd hx hb d_law_1110 ?_
  refine va_sld hx hb hXs hbl hbA hS hin1 d_law_1111 ?_
  refine lw_call OK (by decide) C hP hD hS hl.1 M1 mem_WA rfl rfl rfl rfl rfl lk1_trace ⟨Nat.le_of_ble_eq_true rfl, Nat.le_of_ble_eq_true rfl⟩ (Nat.le_of_ble_eq_true rfl) d_law_1112 hrm lst_1 (fun H1 locs1 hP1 hS1 => ?_)
  refine lv_aload_n hx hb d_law_1115 rfl (lv_at hl 3 rfl) ?_
  refine lv_aload_n hx hb d_law_1116 rfl (lv_at hl 1 rfl) ?_
  refine lv_iload_n hx hb d_law_1117 rfl (lv_at hl 0 rfl) ?_
  refine lv_iconst (v := 1) hx hb d_law_1118 (by decide) ?_
  refine lv_iadd hx hb d_law_1119 ?_
  refine va_sld hx hb hXs hbl hbA hS1 hin1 d_law_1120 ?_
  refine lw_call OK (by decide) C hP1 (lw_D hD) hS1 hl.1 M2 mem_Md rfl rfl rfl rfl rfl lk2_trace ⟨Nat.le_of_ble_eq_true rfl, Nat.le_of_ble_eq_true rfl⟩ (Nat.le_of_ble_eq_true rfl) d_law_1121 hrm lst_1 (fun H2 locs2 hP2 hS2 => ?_)
  refine W.eq (g2 := F0 m 1124 ls [.int (Int32.ofInt v), .int (Int32.ofInt v)]) rfl ?_
  exact lv_icmp_eq (tgt := 1198) hx hb d_law_1124 (by decide) (fun _ => kk σ2 H2 locs2 hX2 hP2 hS2) (fun z => absurd rfl z)
theorem lw_c_hold {p : Program} {l : Launch} {e : Env} {s : State} {m : MethodId} {b L : Nat} {xs : Nat → Int32} {below : List Frame} {meth : Method} {c : Code} {ad : Nat → Int → Nat} {cA : Nat → ClassId} {D : va_G} {ls : Array Slot} {H : Heap} {locs : List Loc} {σ : en_m} {Q : State → Prop} {cells slots : Nat} {x3 : Int32} (OK : en_OK) (WK : en_WK l) (C : lw_C p s m meth c b L xs cA D) (hrm : cells ≤ room_1.cells ∧ slots ≤ room_1.slots) (hin1 : vp_in (x3 + 1) L) (hin2 : vp_in (x3 + 2) L) (hin3 : vp_in (x3 + 3) L) (hin4 : vp_in (x3 + 4) L) (hin5 : vp_in (x3 + 5) L) (hl : lv_has ls 4 [(3, .int x3), (0, .ref b), (1, .ref (ad r_WA 0)), (2, .ref (ad r_Md 0))]) (hP : va_P D classes (en_W ad cA σ) H) (hD : va_D (fun q => s.heap.size ≤ q) (en_W ad cA σ)) (hS : va_S (fun q => s.heap.size ≤ q) s.heap H locs) (hX : iX σ) (kk : ∀ (σ2 : en_m) (H2 : Heap) (locs2 : List Loc), iX σ2 → va_P D classes (en_W ad cA σ2) H2 → va_S (fun q => s.heap.size ≤ q) s.heap H2 locs2 → W p l e room_1 s m #[Value.ref b] below meth c H2 locs2 cells slots Q (F0 m 1198 ls [])) : W p l e room_1 s m #[Value.ref b] below meth c H locs cells slots Q (F0 m 1129 ls []) := by
  obtain ⟨nn, DD, pp, LW, hV⟩ := hX
  obtain ⟨⟨hx, hb, hr, hml, hown, hts, hXs, hbl, hlocks, hgv⟩, hK, hXx⟩ := id C
  have hbA : ¬ (fun q : Nat => s.heap.size ≤ q) b := Nat.not_le.mpr hbl
  obtain ⟨r1, σ1, E2, M1⟩ := en_meth OK WK (a := z_X11_hold) (by decide) (lok_1 mem_WA) (Nat.le_of_ble_eq_true rfl) (eq_hold hV (i32_of (xs (x3 + 1).toNatClampNeg)))
  obtain ⟨r2, σ2, ⟨⟨v, hv1, hv2⟩, hX2⟩, M2⟩ := en_meth OK WK (a := z_X12_hold) (by decide) (lok_1 mem_Md) (Nat.le_of_ble_eq_true rfl) E2
  subst hv1 hv2
  refine lv_aload_n hx hb d_law_1129 rfl (lv_at hl 2 rfl) ?_
  refine lv_aload_n hx hb d_law_1130 rfl (lv_at hl 1 rfl) ?_
  refine lv_iload_n hx hb d_law_1131 rfl (lv_at hl 0 rfl) ?_
  refine lv_iconst (v := 1) hx hb d_law_1132 (by decide) ?_
  refine lv_iadd hx hb d_law_1133 ?_
  refine va_sld hx hb hXs hbl hbA hS hin1 d_law_1134 ?_
  refine lw_call OK (by decide) C hP hD hS hl.1 M1 mem_WA rfl rfl rfl rfl rfl lk1_hold ⟨Nat.le_of_ble_eq_true rfl, Nat.le_of_ble_eq_true rfl⟩ (Nat.le_of_ble_eq_true rfl) d_law_1135 hrm lst_1 (fun H1 locs1 hP1 hS1 => ?_)
  refine lv_aload_n hx hb d_law_1138 rfl (lv_at hl 3 rfl) ?_
  refine lv_aload_n hx hb d_law_1139 rfl (lv_at hl 1 rfl) ?_
  refine lv_iload_n hx hb d_law_1140 rfl (lv_at hl 0 rfl) ?_
  refine lv_iconst (v := 1) hx hb d_law_1141 (by decide) ?_
  refine lv_iadd hx hb d_law_1142 ?_
  refine va_sld hx hb hXs hbl hbA hS1 hin1 d_law_1143 ?_
  refine lw_call OK (by decide) C hP1 (lw_D hD) hS1 hl.1 M2 mem_Md rfl rfl rfl rfl rfl lk2_hold ⟨Nat.le_of_ble_eq_true rfl, Nat.le_of_ble_eq_true rfl⟩ (Nat.le_of_ble_eq_true rfl) d_law_1144 hrm lst_1 (fun H2 locs2 hP2 hS2 => ?_)
  refine W.eq (g2 := F0 m 1147 ls [.int (Int32.ofInt v), .int (Int32.ofInt v)]) rfl ?_
  exact lv_icmp_eq (tgt := 1198) hx hb d_law_1147 (by decide) (fun _ => kk σ2 H2 locs2 hX2 hP2 hS2) (fun z => absurd rfl z)
theorem lw_c_restore {p : Program} {l : Launch} {e : Env} {s : State} {m : MethodId} {b L : Nat} {xs : Nat → Int32} {below : List Frame} {meth : Method} {c : Code} {ad : Nat → Int → Nat} {cA : Nat → ClassId} {D : va_G} {ls : Array Slot} {H : Heap} {locs : List Loc} {σ : en_m} {Q : State → Prop} {cells slots : Nat} {x3 : Int32} (OK : en_OK) (WK : en_WK l) (C : lw_C p s m meth c b L xs cA D) (hrm : cells ≤ room_1.cells ∧ slots ≤ room_1.slots) (hin1 : vp_in (x3 + 1) L) (hin2 : vp_in (x3 + 2) L) (hin3 : vp_in (x3 + 3) L) (hin4 : vp_in (x3 + 4) L) (hin5 : vp_in (x3 + 5) L) (hl : lv_has ls 4 [(3, .int x3), (0, .ref b), (1, .ref (ad r_WA 0)), (2, .ref (ad r_Md 0))]) (hP : va_P D classes (en_W ad cA σ) H) (hD : va_D (fun q => s.heap.size ≤ q) (en_W ad cA σ)) (hS : va_S (fun q => s.heap.size ≤ q) s.heap H locs) (hX : iX σ) (kk : ∀ (σ2 : en_m) (H2 : Heap) (locs2 : List Loc), iX σ2 → va_P D classes (en_W ad cA σ2) H2 → va_S (fun q => s.heap.size ≤ q) s.heap H2 locs2 → W p l e room_1 s m #[Value.ref b] below meth c H2 locs2 cells slots Q (F0 m 1198 ls [])) : W p l e room_1 s m #[Value.ref b] below meth c H locs cells slots Q (F0 m 1152 ls []) := by
  obtain ⟨nn, DD, pp, LW, hV⟩ := hX
  obtain ⟨⟨hx, hb, hr, hml, hown, hts, hXs, hbl, hlocks, hgv⟩, hK, hXx⟩ := id C
  have hbA : ¬ (fun q : Nat => s.heap.size ≤ q) b := Nat.not_le.mpr hbl
  obtain ⟨r1, σ1, E2, M1⟩ := en_meth OK WK (a := z_X11_restore) (by decide) (lok_1 mem_WA) (Nat.le_of_ble_eq_true rfl) (eq_restore hV (i32_of (xs (x3 + 1).toNatClampNeg)))
  obtain ⟨r2, σ2, ⟨⟨v, hv1, hv2⟩, hX2⟩, M2⟩ := en_meth OK WK (a := z_X12_restore) (by decide) (lok_1 mem_Md) (Nat.le_of_ble_eq_true rfl) E2
  subst hv1 hv2
  refine lv_aload_n hx hb d_law_1152 rfl (lv_at hl 2 rfl) ?_
  refine lv_aload_n hx hb d_law_1153 rfl (lv_at hl 1 rfl) ?_
  refine lv_iload_n hx hb d_law_1154 rfl (lv_at hl 0 rfl) ?_
  refine lv_iconst (v := 1) hx hb d_law_1155 (by decide) ?_
  refine lv_iadd hx hb d_law_1156 ?_
  refine va_sld hx hb hXs hbl hbA hS hin1 d_law_1157 ?_
  refine lw_call OK (by decide) C hP hD hS hl.1 M1 mem_WA rfl rfl rfl rfl rfl lk1_restore ⟨Nat.le_of_ble_eq_true rfl, Nat.le_of_ble_eq_true rfl⟩ (Nat.le_of_ble_eq_true rfl) d_law_1158 hrm lst_1 (fun H1 locs1 hP1 hS1 => ?_)
  refine lv_aload_n hx hb d_law_1161 rfl (lv_at hl 3 rfl) ?_
  refine lv_aload_n hx hb d_law_1162 rfl (lv_at hl 1 rfl) ?_
  refine lv_iload_n hx hb d_law_1163 rfl (lv_at hl 0 rfl) ?_
  refine lv_iconst (v := 1) hx hb d_law_1164 (by decide) ?_
  refine lv_iadd hx hb d_law_1165 ?_
  refine va_sld hx hb hXs hbl hbA hS1 hin1 d_law_1166 ?_
  refine lw_call OK (by decide) C hP1 (lw_D hD) hS1 hl.1 M2 mem_Md rfl rfl rfl rfl rfl lk2_restore ⟨Nat.le_of_ble_eq_true rfl, Nat.le_of_ble_eq_true rfl⟩ (Nat.le_of_ble_eq_true rfl) d_law_1167 hrm lst_1 (fun H2 locs2 hP2 hS2 => ?_)
  refine W.eq (g2 := F0 m 1170 ls [.int (Int32.ofInt v), .int (Int32.ofInt v)]) rfl ?_
  exact lv_icmp_eq (tgt := 1198) hx hb d_law_1170 (by decide) (fun _ => kk σ2 H2 locs2 hX2 hP2 hS2) (fun z => absurd rfl z)
theorem lw_c_count {p : Program} {l : Launch} {e : Env} {s : State} {m : MethodId} {b L : Nat} {xs : Nat → Int32} {below : List Frame} {meth : Method} {c : Code} {ad : Nat → Int → Nat} {cA : Nat → ClassId} {D : va_G} {ls : Array Slot} {H : Heap} {locs : List Loc} {σ : en_m} {Q : State → Prop} {cells slots : Nat} {x3 : Int32} (OK : en_OK) (WK : en_WK l) (C : lw_C p s m meth c b L xs cA D) (hrm : cells ≤ room_1.cells ∧ slots ≤ room_1.slots) (hin1 : vp_in (x3 + 1) L) (hin2 : vp_in (x3 + 2) L) (hin3 : vp_in (x3 + 3) L) (hin4 : vp_in (x3 + 4) L) (hin5 : vp_in (x3 + 5) L) (hl : lv_has ls 4 [(3, .int x3), (0, .ref b), (1, .ref (ad r_WA 0)), (2, .ref (ad r_Md 0))]) (hP : va_P D classes (en_W ad cA σ) H) (hD : va_D (fun q => s.heap.size ≤ q) (en_W ad cA σ)) (hS : va_S (fun q => s.heap.size ≤ q) s.heap H locs) (hX : iX σ) (kk : ∀ (σ2 : en_m) (H2 : Heap) (locs2 : List Loc), iX σ2 → va_P D classes (en_W ad cA σ2) H2 → va_S (fun q => s.heap.size ≤ q) s.heap H2 locs2 → W p l e room_1 s m #[Value.ref b] below meth c H2 locs2 cells slots Q (F0 m 1198 ls [])) : W p l e room_1 s m #[Value.ref b] below meth c H locs cells slots Q (F0 m 1175 ls []) := by
  obtain ⟨nn, DD, pp, LW, hV⟩ := hX
  obtain ⟨⟨hx, hb, hr, hml, hown, hts, hXs, hbl, hlocks, hgv⟩, hK, hXx⟩ := id C
  have hbA : ¬ (fun q : Nat => s.heap.size ≤ q) b := Nat.not_le.mpr hbl
  obtain ⟨r1, σ1, E2, M1⟩ := en_meth OK WK (a := z_X11_count) (by decide) (lok_1 mem_WA) (Nat.le_of_ble_eq_true rfl) (eq_count hV (i32_of (xs (x3 + 1).toNatClampNeg)))
  obtain ⟨r2, σ2, ⟨⟨v, hv1, hv2⟩, hX2⟩, M2⟩ := en_meth OK WK (a := z_X12_count) (by decide) (lok_1 mem_Md) (Nat.le_of_ble_eq_true rfl) E2
  subst hv1 hv2
  refine lv_aload_n hx hb d_law_1175 rfl (lv_at hl 2 rfl) ?_
  refine lv_aload_n hx hb d_law_1176 rfl (lv_at hl 1 rfl) ?_
  refine lv_iload_n hx hb d_law_1177 rfl (lv_at hl 0 rfl) ?_
  refine lv_iconst (v := 1) hx hb d_law_1178 (by decide) ?_
  refine lv_iadd hx hb d_law_1179 ?_
  refine va_sld hx hb hXs hbl hbA hS hin1 d_law_1180 ?_
  refine lw_call OK (by decide) C hP hD hS hl.1 M1 mem_WA rfl rfl rfl rfl rfl lk1_count ⟨Nat.le_of_ble_eq_true rfl, Nat.le_of_ble_eq_true rfl⟩ (Nat.le_of_ble_eq_true rfl) d_law_1181 hrm lst_1 (fun H1 locs1 hP1 hS1 => ?_)
  refine lv_aload_n hx hb d_law_1184 rfl (lv_at hl 3 rfl) ?_
  refine lv_aload_n hx hb d_law_1185 rfl (lv_at hl 1 rfl) ?_
  refine lv_iload_n hx hb d_law_1186 rfl (lv_at hl 0 rfl) ?_
  refine lv_iconst (v := 1) hx hb d_law_1187 (by decide) ?_
  refine lv_iadd hx hb d_law_1188 ?_
  refine va_sld hx hb hXs hbl hbA hS1 hin1 d_law_1189 ?_
  refine lw_call OK (by decide) C hP1 (lw_D hD) hS1 hl.1 M2 mem_Md rfl rfl rfl rfl rfl lk2_count ⟨Nat.le_of_ble_eq_true rfl, Nat.le_of_ble_eq_true rfl⟩ (Nat.le_of_ble_eq_true rfl) d_law_1190 hrm lst_1 (fun H2 locs2 hP2 hS2 => ?_)
  refine W.eq (g2 := F0 m 1193 ls [.int (Int32.ofInt v), .int (Int32.ofInt v)]) rfl ?_
  exact lv_icmp_eq (tgt := 1198) hx hb d_law_1193 (by decide) (fun _ => kk σ2 H2 locs2 hX2 hP2 hS2) (fun z => absurd rfl z)
