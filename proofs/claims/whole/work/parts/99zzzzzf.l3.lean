/-! each case of the law's switch -/
theorem lw_c_feed {p : Program} {l : Launch} {e : Env} {s : State} {m : MethodId} {b L : Nat} {xs : Nat → Int32} {below : List Frame} {meth : Method} {c : Code} {ad : Nat → Int → Nat} {cA : Nat → ClassId} {D : va_G} {ls : Array Slot} {H : Heap} {locs : List Loc} {σ : en_m} {Q : State → Prop} {cells slots : Nat} {x3 : Int32} (OK : en_OK) (WK : en_WK l) (C : lw_C p s m meth c b L xs cA D) (hrm : cells ≤ room_1.cells ∧ slots ≤ room_1.slots) (hin1 : vp_in (x3 + 1) L) (hin2 : vp_in (x3 + 2) L) (hin3 : vp_in (x3 + 3) L) (hin4 : vp_in (x3 + 4) L) (hin5 : vp_in (x3 + 5) L) (hl : lv_has ls 4 [(3, .int x3), (0, .ref b), (1, .ref (ad r_WA 0)), (2, .ref (ad r_Md 0))]) (hP : va_P D classes (en_W ad cA σ) H) (hD : va_D (fun q => s.heap.size ≤ q) (en_W ad cA σ)) (hS : va_S (fun q => s.heap.size ≤ q) s.heap H locs) (hX : iX σ) (kk : ∀ (σ2 : en_m) (H2 : Heap) (locs2 : List Loc), iX σ2 → va_P D classes (en_W ad cA σ2) H2 → va_S (fun q => s.heap.size ≤ q) s.heap H2 locs2 → W p l e room_1 s m #[Value.ref b] below meth c H2 locs2 cells slots Q (F0 m 1198 ls [])) : W p l e room_1 s m #[Value.ref b] below meth c H locs cells slots Q (F0 m 192 ls []) := by
  obtain ⟨nn, DD, pp, LW, hV⟩ := hX
  obtain ⟨⟨hx, hb, hr, hml, hown, hts, hXs, hbl, hlocks, hgv⟩, hK, hXx⟩ := id C
  have hbA : ¬ (fun q : Nat => s.heap.size ≤ q) b := Nat.not_le.mpr hbl
  obtain ⟨r1, σ1, E2, M1⟩ := en_meth OK WK (a := z_X11_feed) (by decide) (lok_5 mem_WA) (Nat.le_of_ble_eq_true rfl) (eq_feed hV (i32_of (xs (x3 + 1).toNatClampNeg)) (i32_of (xs (x3 + 2).toNatClampNeg)) (i32_of (xs (x3 + 3).toNatClampNeg)) (i32_of (xs (x3 + 4).toNatClampNeg)) (i32_of (xs (x3 + 5).toNatClampNeg)))
  obtain ⟨r2, σ2, ⟨⟨v, hv1, hv2⟩, hX2⟩, M2⟩ := en_meth OK WK (a := z_X12_feed) (by decide) (lok_5 mem_Md) (Nat.le_of_ble_eq_true rfl) E2
  subst hv1 hv2
  refine lv_aload_n hx hb d_law_192 rfl (lv_at hl 2 rfl) ?_
  refine lv_aload_n hx hb d_law_193 rfl (lv_at hl 1 rfl) ?_
  refine lv_iload_n hx hb d_law_194 rfl (lv_at hl 0 rfl) ?_
  refine lv_iconst (v := 1) hx hb d_law_195 (by decide) ?_
  refine lv_iadd hx hb d_law_196 ?_
  refine va_sld hx hb hXs hbl hbA hS hin1 d_law_197 ?_
  refine lv_aload_n hx hb d_law_198 rfl (lv_at hl 1 rfl) ?_
  refine lv_iload_n hx hb d_law_199 rfl (lv_at hl 0 rfl) ?_
  refine lv_iconst (v := 2) hx hb d_law_200 (by decide) ?_
  refine lv_iadd hx hb d_law_201 ?_
  refine va_sld hx hb hXs hbl hbA hS hin2 d_law_202 ?_
  refine lv_aload_n hx hb d_law_203 rfl (lv_at hl 1 rfl) ?_
  refine lv_iload_n hx hb d_law_204 rfl (lv_at hl 0 rfl) ?_
  refine lv_iconst (v := 3) hx hb d_law_205 (by decide) ?_
  refine lv_iadd hx hb d_law_206 ?_
  refine va_sld hx hb hXs hbl hbA hS hin3 d_law_207 ?_
  refine lv_aload_n hx hb d_law_208 rfl (lv_at hl 1 rfl) ?_
  refine lv_iload_n hx hb d_law_209 rfl (lv_at hl 0 rfl) ?_
  refine lv_iconst (v := 4) hx hb d_law_210 (by decide) ?_
  refine lv_iadd hx hb d_law_211 ?_
  refine va_sld hx hb hXs hbl hbA hS hin4 d_law_212 ?_
  refine lv_aload_n hx hb d_law_213 rfl (lv_at hl 1 rfl) ?_
  refine lv_iload_n hx hb d_law_214 rfl (lv_at hl 0 rfl) ?_
  refine lv_iconst (v := 5) hx hb d_law_215 (by decide) ?_
  refine lv_iadd hx hb d_law_216 ?_
  refine va_sld hx hb hXs hbl hbA hS hin5 d_law_217 ?_
  refine lw_call OK (by decide) C hP hD hS hl.1 M1 mem_WA rfl rfl rfl rfl rfl lk1_feed ⟨Nat.le_of_ble_eq_true rfl, Nat.le_of_ble_eq_true rfl⟩ (Nat.le_of_ble_eq_true rfl) d_law_218 hrm lst_5 (fun H1 locs1 hP1 hS1 => ?_)
  refine lv_aload_n hx hb d_law_221 rfl (lv_at hl 3 rfl) ?_
  refine lv_aload_n hx hb d_law_222 rfl (lv_at hl 1 rfl) ?_
  refine lv_iload_n hx hb d_law_223 rfl (lv_at hl 0 rfl) ?_
  refine lv_iconst (v := 1) hx hb d_law_224 (by decide) ?_
  refine lv_iadd hx hb d_law_225 ?_
  refine va_sld hx hb hXs hbl hbA hS1 hin1 d_law_226 ?_
  refine lv_aload_n hx hb d_law_227 rfl (lv_at hl 1 rfl) ?_
  refine lv_iload_n hx hb d_law_228 rfl (lv_at hl 0 rfl) ?_
  refine lv_iconst (v := 2) hx hb d_law_229 (by decide) ?_
  refine lv_iadd hx hb d_law_230 ?_
  refine va_sld hx hb hXs hbl hbA hS1 hin2 d_law_231 ?_
  refine lv_aload_n hx hb d_law_232 rfl (lv_at hl 1 rfl) ?_
  refine lv_iload_n hx hb d_law_233 rfl (lv_at hl 0 rfl) ?_
  refine lv_iconst (v := 3) hx hb d_law_234 (by decide) ?_
  refine lv_iadd hx hb d_law_235 ?_
  refine va_sld hx hb hXs hbl hbA hS1 hin3 d_law_236 ?_
  refine lv_aload_n hx hb d_law_237 rfl (lv_at hl 1 rfl) ?_
  refine lv_iload_n hx hb d_law_238 rfl (lv_at hl 0 rfl) ?_
  refine lv_iconst (v := 4) hx hb d_law_239 (by decide) ?_
  refine lv_iadd hx hb d_law_240 ?_
  refine va_sld hx hb hXs hbl hbA hS1 hin4 d_law_241 ?_
  refine lv_aload_n hx hb d_law_242 rfl (lv_at hl 1 rfl) ?_
  refine lv_iload_n hx hb d_law_243 rfl (lv_at hl 0 rfl) ?_
  refine lv_iconst (v := 5) hx hb d_law_244 (by decide) ?_
  refine lv_iadd hx hb d_law_245 ?_
  refine va_sld hx hb hXs hbl hbA hS1 hin5 d_law_246 ?_
  refine lw_call OK (by decide) C hP1 (lw_D hD) hS1 hl.1 M2 mem_Md rfl rfl rfl rfl rfl lk2_feed ⟨Nat.le_of_ble_eq_true rfl, Nat.le_of_ble_eq_true rfl⟩ (Nat.le_of_ble_eq_true rfl) d_law_247 hrm lst_5 (fun H2 locs2 hP2 hS2 => ?_)
  refine W.eq (g2 := F0 m 250 ls [.int (Int32.ofInt v), .int (Int32.ofInt v)]) rfl ?_
  exact lv_icmp_eq (tgt := 1198) hx hb d_law_250 (by decide) (fun _ => kk σ2 H2 locs2 hX2 hP2 hS2) (fun z => absurd rfl z)
theorem lw_c_back {p : Program} {l : Launch} {e : Env} {s : State} {m : MethodId} {b L : Nat} {xs : Nat → Int32} {below : List Frame} {meth : Method} {c : Code} {ad : Nat → Int → Nat} {cA : Nat → ClassId} {D : va_G} {ls : Array Slot} {H : Heap} {locs : List Loc} {σ : en_m} {Q : State → Prop} {cells slots : Nat} {x3 : Int32} (OK : en_OK) (WK : en_WK l) (C : lw_C p s m meth c b L xs cA D) (hrm : cells ≤ room_1.cells ∧ slots ≤ room_1.slots) (hin1 : vp_in (x3 + 1) L) (hin2 : vp_in (x3 + 2) L) (hin3 : vp_in (x3 + 3) L) (hin4 : vp_in (x3 + 4) L) (hin5 : vp_in (x3 + 5) L) (hl : lv_has ls 4 [(3, .int x3), (0, .ref b), (1, .ref (ad r_WA 0)), (2, .ref (ad r_Md 0))]) (hP : va_P D classes (en_W ad cA σ) H) (hD : va_D (fun q => s.heap.size ≤ q) (en_W ad cA σ)) (hS : va_S (fun q => s.heap.size ≤ q) s.heap H locs) (hX : iX σ) (kk : ∀ (σ2 : en_m) (H2 : Heap) (locs2 : List Loc), iX σ2 → va_P D classes (en_W ad cA σ2) H2 → va_S (fun q => s.heap.size ≤ q) s.heap H2 locs2 → W p l e room_1 s m #[Value.ref b] below meth c H2 locs2 cells slots Q (F0 m 1198 ls [])) : W p l e room_1 s m #[Value.ref b] below meth c H locs cells slots Q (F0 m 255 ls []) := by
  obtain ⟨nn, DD, pp, LW, hV⟩ := hX
  obtain ⟨⟨hx, hb, hr, hml, hown, hts, hXs, hbl, hlocks, hgv⟩, hK, hXx⟩ := id C
  have hbA : ¬ (fun q : Nat => s.heap.size ≤ q) b := Nat.not_le.mpr hbl
  obtain ⟨r1, σ1, E2, M1⟩ := en_meth OK WK (a := z_X11_back) (by decide) (lok_1 mem_WA) (Nat.le_of_ble_eq_true rfl) (eq_back hV (i32_of (xs (x3 + 1).toNatClampNeg)))
  obtain ⟨r2, σ2, ⟨⟨v, hv1, hv2⟩, hX2⟩, M2⟩ := en_meth OK WK (a := z_X12_back) (by decide) (lok_1 mem_Md) (Nat.le_of_ble_eq_true rfl) E2
  subst hv1 hv2
  refine lv_aload_n hx hb d_law_255 rfl (lv_at hl 2 rfl) ?_
  refine lv_aload_n hx hb d_law_256 rfl (lv_at hl 1 rfl) ?_
  refine lv_iload_n hx hb d_law_257 rfl (lv_at hl 0 rfl) ?_
  refine lv_iconst (v := 1) hx hb d_law_258 (by decide) ?_
  refine lv_iadd hx hb d_law_259 ?_
  refine va_sld hx hb hXs hbl hbA hS hin1 d_law_260 ?_
  refine lw_call OK (by decide) C hP hD hS hl.1 M1 mem_WA rfl rfl rfl rfl rfl lk1_back ⟨Nat.le_of_ble_eq_true rfl, Nat.le_of_ble_eq_true rfl⟩ (Nat.le_of_ble_eq_true rfl) d_law_261 hrm lst_1 (fun H1 locs1 hP1 hS1 => ?_)
  refine lv_aload_n hx hb d_law_264 rfl (lv_at hl 3 rfl) ?_
  refine lv_aload_n hx hb d_law_265 rfl (lv_at hl 1 rfl) ?_
  refine lv_iload_n hx hb d_law_266 rfl (lv_at hl 0 rfl) ?_
  refine lv_iconst (v := 1) hx hb d_law_267 (by decide) ?_
  refine lv_iadd hx hb d_law_268 ?_
  refine va_sld hx hb hXs hbl hbA hS1 hin1 d_law_269 ?_
  refine lw_call OK (by decide) C hP1 (lw_D hD) hS1 hl.1 M2 mem_Md rfl rfl rfl rfl rfl lk2_back ⟨Nat.le_of_ble_eq_true rfl, Nat.le_of_ble_eq_true rfl⟩ (Nat.le_of_ble_eq_true rfl) d_law_270 hrm lst_1 (fun H2 locs2 hP2 hS2 => ?_)
  refine W.eq (g2 := F0 m 273 ls [.int (Int32.ofInt v), .int (Int32.ofInt v)]) rfl ?_
  exact lv_icmp_eq (tgt := 1198) hx hb d_law_273 (by decide) (fun _ => kk σ2 H2 locs2 hX2 hP2 hS2) (fun z => absurd rfl z)
theorem lw_c_read {p : Program} {l : Launch} {e : Env} {s : State} {m : MethodId} {b L : Nat} {xs : Nat → Int32} {below : List Frame} {meth : Method} {c : Code} {ad : Nat → Int → Nat} {cA : Nat → ClassId} {D : va_G} {ls : Array Slot} {H : Heap} {locs : List Loc} {σ : en_m} {Q : State → Prop} {cells slots : Nat} {x3 : Int32} (OK : en_OK) (WK : en_WK l) (C : lw_C p s m meth c b L xs cA D) (hrm : cells ≤ room_1.cells ∧ slots ≤ room_1.slots) (hin1 : vp_in (x3 + 1) L) (hin2 : vp_in (x3 + 2) L) (hin3 : vp_in (x3 + 3) L) (hin4 : vp_in (x3 + 4) L) (hin5 : vp_in (x3 + 5) L) (hl : lv_has ls 4 [(3, .int x3), (0, .ref b), (1, .ref (ad r_WA 0)), (2, .ref (ad r_Md 0))]) (hP : va_P D classes (en_W ad cA σ) H) (hD : va_D (fun q => s.heap.size ≤ q) (en_W ad cA σ)) (hS : va_S (fun q => s.heap.size ≤ q) s.heap H locs) (hX : iX σ) (kk : ∀ (σ2 : en_m) (H2 : Heap) (locs2 : List Loc), iX σ2 → va_P D classes (en_W ad cA σ2) H2 → va_S (fun q => s.heap.size ≤ q) s.heap H2 locs2 → W p l e room_1 s m #[Value.ref b] below meth c H2 locs2 cells slots Q (F0 m 1198 ls [])) : W p l e room_1 s m #[Value.ref b] below meth c H locs cells slots Q (F0 m 278 ls []) := by
  obtain ⟨nn, DD, pp, LW, hV⟩ := hX
  obtain ⟨⟨hx, hb, hr, hml, hown, hts, hXs, hbl, hlocks, hgv⟩, hK, hXx⟩ := id C
  have hbA : ¬ (fun q : Nat => s.heap.size ≤ q) b := Nat.not_le.mpr hbl
  obtain ⟨r1, σ1, E2, M1⟩ := en_meth OK WK (a := z_X11_read) (by decide) (lok_0 mem_WA) (Nat.le_of_ble_eq_true rfl) (eq_read hV)
  obtain ⟨r2, σ2, ⟨⟨v, hv1, hv2⟩, hX2⟩, M2⟩ := en_meth OK WK (a := z_X12_read) (by decide) (lok_0 mem_Md) (Nat.le_of_ble_eq_true rfl) E2
  subst hv1 hv2
  refine lv_aload_n hx hb d_law_278 rfl (lv_at hl 2 rfl) ?_
  refine lw_call OK (by decide) C hP hD hS hl.1 M1 mem_WA rfl rfl rfl rfl rfl lk1_read ⟨Nat.le_of_ble_eq_true rfl, Nat.le_of_ble_eq_true rfl⟩ (Nat.le_of_ble_eq_true rfl) d_law_279 hrm lst_0 (fun H1 locs1 hP1 hS1 => ?_)
  refine lv_aload_n hx hb d_law_282 rfl (lv_at hl 3 rfl) ?_
  refine lw_call OK (by decide) C hP1 (lw_D hD) hS1 hl.1 M2 mem_Md rfl rfl rfl rfl rfl lk2_read ⟨Nat.le_of_ble_eq_true rfl, Nat.le_of_ble_eq_true rfl⟩ (Nat.le_of_ble_eq_true rfl) d_law_283 hrm lst_0 (fun H2 locs2 hP2 hS2 => ?_)
  refine W.eq (g2 := F0 m 286 ls [.int (Int32.ofInt v), .int (Int32.ofInt v)]) rfl ?_
  exact lv_icmp_eq (tgt := 1198) hx hb d_law_286 (by decide) (fun _ => kk σ2 H2 locs2 hX2 hP2 hS2) (fun z => absurd rfl z)
theorem lw_c_element {p : Program} {l : Launch} {e : Env} {s : State} {m : MethodId} {b L : Nat} {xs : Nat → Int32} {below : List Frame} {meth : Method} {c : Code} {ad : Nat → Int → Nat} {cA : Nat → ClassId} {D : va_G} {ls : Array Slot} {H : Heap} {locs : List Loc} {σ : en_m} {Q : State → Prop} {cells slots : Nat} {x3 : Int32} (OK : en_OK) (WK : en_WK l) (C : lw_C p s m meth c b L xs cA D) (hrm : cells ≤ room_1.cells ∧ slots ≤ room_1.slots) (hin1 : vp_in (x3 + 1) L) (hin2 : vp_in (x3 + 2) L) (hin3 : vp_in (x3 + 3) L) (hin4 : vp_in (x3 + 4) L) (hin5 : vp_in (x3 + 5) L) (hl : lv_has ls 4 [(3, .int x3), (0, .ref b), (1, .ref (ad r_WA 0)), (2, .ref (ad r_Md 0))]) (hP : va_P D classes (en_W ad cA σ) H) (hD : va_D (fun q => s.heap.size ≤ q) (en_W ad cA σ)) (hS : va_S (fun q => s.heap.size ≤ q) s.heap H locs) (hX : iX σ) (kk : ∀ (σ2 : en_m) (H2 : Heap) (locs2 : List Loc), iX σ2 → va_P D classes (en_W ad cA σ2) H2 → va_S (fun q => s.heap.size ≤ q) s.heap H2 locs2 → W p l e room_1 s m #[Value.ref b] below meth c H2 locs2 cells slots Q (F0 m 1198 ls [])) : W p l e room_1 s m #[Value.ref b] below meth c H locs cells slots Q (F0 m 291 ls []) := by
  obtain ⟨nn, DD, pp, LW, hV⟩ := hX
  obtain ⟨⟨hx, hb, hr, hml, hown, hts, hXs, hbl, hlocks, hgv⟩, hK, hXx⟩ := id C
  have hbA : ¬ (fun q : Nat => s.heap.size ≤ q) b := Nat.not_le.mpr hbl
  obtain ⟨r1, σ1, E2, M1⟩ := en_meth OK WK (a := z_X11_element) (by decide) (lok_1 mem_WA) (Nat.le_of_ble_eq_true rfl) (eq_element hV (i32_of (xs (x3 + 1).toNatClampNeg)))
  obtain ⟨r2, σ2, ⟨⟨v, hv1, hv2⟩, hX2⟩, M2⟩ := en_meth OK WK (a := z_X12_element) (by decide) (lok_1 mem_Md) (Nat.le_of_ble_eq_true rfl) E2
  subst hv1 hv2
  refine lv_aload_n hx hb d_law_291 rfl (lv_at hl 2 rfl) ?_
  refine lv_aload_n hx hb d_law_292 rfl (lv_at hl 1 rfl) ?_
  refine lv_iload_n hx hb d_law_293 rfl (lv_at hl 0 rfl) ?_
  refine lv_iconst (v := 1) hx hb d_law_294 (by decide) ?_
  refine lv_iadd hx hb d_law_295 ?_
  refine va_sld hx hb hXs hbl hbA hS hin1 d_law_296 ?_
  refine lw_call OK (by decide) C hP hD hS hl.1 M1 mem_WA rfl rfl rfl rfl rfl lk1_element ⟨Nat.le_of_ble_eq_true rfl, Nat.le_of_ble_eq_true rfl⟩ (Nat.le_of_ble_eq_true rfl) d_law_297 hrm lst_1 (fun H1 locs1 hP1 hS1 => ?_)
  refine lv_aload_n hx hb d_law_300 rfl (lv_at hl 3 rfl) ?_
  refine lv_aload_n hx hb d_law_301 rfl (lv_at hl 1 rfl) ?_
  refine lv_iload_n hx hb d_law_302 rfl (lv_at hl 0 rfl) ?_
  refine lv_iconst (v := 1) hx hb d_law_303 (by decide) ?_
  refine lv_iadd hx hb d_law_304 ?_
  refine va_sld hx hb hXs hbl hbA hS1 hin1 d_law_305 ?_
  refine lw_call OK (by decide) C hP1 (lw_D hD) hS1 hl.1 M2 mem_Md rfl rfl rfl rfl rfl lk2_element ⟨Nat.le_of_ble_eq_true rfl, Nat.le_of_ble_eq_true rfl⟩ (Nat.le_of_ble_eq_true rfl) d_law_306 hrm lst_1 (fun H2 locs2 hP2 hS2 => ?_)
  refine W.eq (g2 := F0 m 309 ls [.int (Int32.ofInt v), .int (Int32.ofInt v)]) rfl ?_
  exact lv_icmp_eq (tgt := 1198) hx hb d_law_309 (by decide) (fun _ => kk σ2 H2 locs2 hX2 hP2 hS2) (fun z => absurd rfl z)
theorem lw_c_place {p : Program} {l : Launch} {e : Env} {s : State} {m : MethodId} {b L : Nat} {xs : Nat → Int32} {below : List Frame} {meth : Method} {c : Code} {ad : Nat → Int → Nat} {cA : Nat → ClassId} {D : va_G} {ls : Array Slot} {H : Heap} {locs : List Loc} {σ : en_m} {Q : State → Prop} {cells slots : Nat} {x3 : Int32} (OK : en_OK) (WK : en_WK l) (C : lw_C p s m meth c b L xs cA D) (hrm : cells ≤ room_1.cells ∧ slots ≤ room_1.slots) (hin1 : vp_in (x3 + 1) L) (hin2 : vp_in (x3 + 2) L) (hin3 : vp_in (x3 + 3) L) (hin4 : vp_in (x3 + 4) L) (hin5 : vp_in (x3 + 5) L) (hl : lv_has ls 4 [(3, .int x3), (0, .ref b), (1, .ref (ad r_WA 0)), (2, .ref (ad r_Md 0))]) (hP : va_P D classes (en_W ad cA σ) H) (hD : va_D (fun q => s.heap.size ≤ q) (en_W ad cA σ)) (hS : va_S (fun q => s.heap.size ≤ q) s.heap H locs) (hX : iX σ) (kk : ∀ (σ2 : en_m) (H2 : Heap) (locs2 : List Loc), iX σ2 → va_P D classes (en_W ad cA σ2) H2 → va_S (fun q => s.heap.size ≤ q) s.heap H2 locs2 → W p l e room_1 s m #[Value.ref b] below meth c H2 locs2 cells slots Q (F0 m 1198 ls [])) : W p l e room_1 s m #[Value.ref b] below meth c H locs cells slots Q (F0 m 314 ls []) := by
  obtain ⟨nn, DD, pp, LW, hV⟩ := hX
  obtain ⟨⟨hx, hb, hr, hml, hown, hts, hXs, hbl, hlocks, hgv⟩, hK, hXx⟩ := id C
  have hbA : ¬ (fun q : Nat => s.heap.size ≤ q) b := Nat.not_le.mpr hbl
  obtain ⟨r1, σ1, E2, M1⟩ := en_meth OK WK (a := z_X11_place) (by decide) (lok_0 mem_WA) (Nat.le_of_ble_eq_true rfl) (eq_place hV)
  obtain ⟨r2, σ2, ⟨⟨v, hv1, hv2⟩, hX2⟩, M2⟩ := en_meth OK WK (a := z_X12_place) (by decide) (lok_0 mem_Md) (Nat.le_of_ble_eq_true rfl) E2
  subst hv1 hv2
  refine lv_aload_n hx hb d_law_314 rfl (lv_at hl 2 rfl) ?_
  refine lw_call OK (by decide) C hP hD hS hl.1 M1 mem_WA rfl rfl rfl rfl rfl lk1_place ⟨Nat.le_of_ble_eq_true rfl, Nat.le_of_ble_eq_true rfl⟩ (Nat.le_of_ble_eq_true rfl) d_law_315 hrm lst_0 (fun H1 locs1 hP1 hS1 => ?_)
  refine lv_aload_n hx hb d_law_318 rfl (lv_at hl 3 rfl) ?_
  refine lw_call OK (by decide) C hP1 (lw_D hD) hS1 hl.1 M2 mem_Md rfl rfl rfl rfl rfl lk2_place ⟨Nat.le_of_ble_eq_true rfl, Nat.le_of_ble_eq_true rfl⟩ (Nat.le_of_ble_eq_true rfl) d_law_319 hrm lst_0 (fun H2 locs2 hP2 hS2 => ?_)
  refine W.eq (g2 := F0 m 322 ls [.int (Int32.ofInt v), .int (Int32.ofInt v)]) rfl ?_
  exact lv_icmp_eq (tgt := 1198) hx hb d_law_322 (by decide) (fun _ => kk σ2 H2 locs2 hX2 hP2 hS2) (fun z => absurd rfl z)
theorem lw_c_counts {p : Program} {l : Launch} {e : Env} {s : State} {m : MethodId} {b L : Nat} {xs : Nat → Int32} {below : List Frame} {meth : Method} {c : Code} {ad : Nat → Int → Nat} {cA : Nat → ClassId} {D : va_G} {ls : Array Slot} {H : Heap} {locs : List Loc} {σ : en_m} {Q : State → Prop} {cells slots : Nat} {x3 : Int32} (OK : en_OK) (WK : en_WK l) (C : lw_C p s m meth c b L xs cA D) (hrm : cells ≤ room_1.cells ∧ slots ≤ room_1.slots) (hin1 : vp_in (x3 + 1) L) (hin2 : vp_in (x3 + 2) L) (hin3 : vp_in (x3 + 3) L) (hin4 : vp_in (x3 + 4) L) (hin5 : vp_in (x3 + 5) L) (hl : lv_has ls 4 [(3, .int x3), (0, .ref b), (1, .ref (ad r_WA 0)), (2, .ref (ad r_Md 0))]) (hP : va_P D classes (en_W ad cA σ) H) (hD : va_D (fun q => s.heap.size ≤ q) (en_W ad cA σ)) (hS : va_S (fun q => s.heap.size ≤ q) s.heap H locs) (hX : iX σ) (kk : ∀ (σ2 : en_m) (H2 : Heap) (locs2 : List Loc), iX σ2 → va_P D classes (en_W ad cA σ2) H2 → va_S (fun q => s.heap.size ≤ q) s.heap H2 locs2 → W p l e room_1 s m #[Value.ref b] below meth c H2 locs2 cells slots Q (F0 m 1198 ls [])) : W p l e room_1 s m #[Value.ref b] below meth c H locs cells slots Q (F0 m 327 ls []) := by
  obtain ⟨nn, DD, pp, LW, hV⟩ := hX
  obtain ⟨⟨hx, hb, hr, hml, hown, hts, hXs, hbl, hlocks, hgv⟩, hK, hXx⟩ := id C
  have hbA : ¬ (fun q : Nat => s.heap.size ≤ q) b := Nat.not_le.mpr hbl
  obtain ⟨r1, σ1, E2, M1⟩ := en_meth OK WK (a := z_X11_counts) (by decide) (lok_2 mem_WA) (Nat.le_of_ble_eq_true rfl) (eq_counts hV (i32_of (xs (x3 + 1).toNatClampNeg)) (i32_of (xs (x3 + 2).toNatClampNeg)))
  obtain ⟨r2, σ2, ⟨⟨v, hv1, hv2⟩, hX2⟩, M2⟩ := en_meth OK WK (a := z_X12_counts) (by decide) (lok_2 mem_Md) (Nat.le_of_ble_eq_true rfl) E2
  subst hv1 hv2
  refine lv_aload_n hx hb d_law_327 rfl (lv_at hl 2 rfl) ?_
  refine lv_aload_n hx hb d_law_328 rfl (lv_at hl 1 rfl) ?_
  refine lv_iload_n hx hb d_law_329 rfl (lv_at hl 0 rfl) ?_
  refine lv_iconst (v := 1) hx hb d_law_330 (by decide) ?_
  refine lv_iadd hx hb d_law_331 ?_
  refine va_sld hx hb hXs hbl hbA hS hin1 d_law_332 ?_
  refine lv_aload_n hx hb d_law_333 rfl (lv_at hl 1 rfl) ?_
  refine lv_iload_n hx hb d_law_334 rfl (lv_at hl 0 rfl) ?_
  refine lv_iconst (v := 2) hx hb d_law_335 (by decide) ?_
  refine lv_iadd hx hb d_law_336 ?_
  refine va_sld hx hb hXs hbl hbA hS hin2 d_law_337 ?_
  refine lw_call OK (by decide) C hP hD hS hl.1 M1 mem_WA rfl rfl rfl rfl rfl lk1_counts ⟨Nat.le_of_ble_eq_true rfl, Nat.le_of_ble_eq_true rfl⟩ (Nat.le_of_ble_eq_true rfl) d_law_338 hrm lst_2 (fun H1 locs1 hP1 hS1 => ?_)
  refine lv_aload_n hx hb d_law_341 rfl (lv_at hl 3 rfl) ?_
  refine lv_aload_n hx hb d_law_342 rfl (lv_at hl 1 rfl) ?_
  refine lv_iload_n hx hb d_law_343 rfl (lv_at hl 0 rfl) ?_
  refine lv_iconst (v := 1) hx hb d_law_344 (by decide) ?_
  refine lv_iadd hx hb d_law_345 ?_
  refine va_sld hx hb hXs hbl hbA hS1 hin1 d_law_346 ?_
  refine lv_aload_n hx hb d_law_347 rfl (lv_at hl 1 rfl) ?_
  refine lv_iload_n hx hb d_law_348 rfl (lv_at hl 0 rfl) ?_
  refine lv_iconst (v := 2) hx hb d_law_349 (by decide) ?_
  refine lv_iadd hx hb d_law_350 ?_
  refine va_sld hx hb hXs hbl hbA hS1 hin2 d_law_351 ?_
  refine lw_call OK (by decide) C hP1 (lw_D hD) hS1 hl.1 M2 mem_Md rfl rfl rfl rfl rfl lk2_counts ⟨Nat.le_of_ble_eq_true rfl, Nat.le_of_ble_eq_true rfl⟩ (Nat.le_of_ble_eq_true rfl) d_law_352 hrm lst_2 (fun H2 locs2 hP2 hS2 => ?_)
  refine W.eq (g2 := F0 m 355 ls [.int (Int32.ofInt v), .int (Int32.ofInt v)]) rfl ?_
  exact lv_icmp_eq (tgt := 1198) hx hb d_law_355 (by decide) (fun _ => kk σ2 H2 locs2 hX2 hP2 hS2) (fun z => absurd rfl z)
theorem lw_c_words {p : Program} {l : Launch} {e : Env} {s : State} {m : MethodId} {b L : Nat} {xs : Nat → Int32} {below : List Frame} {meth : Method} {c : Code} {ad : Nat → Int → Nat} {cA : Nat → ClassId} {D : va_G} {ls : Array Slot} {H : Heap} {locs : List Loc} {σ : en_m} {Q : State → Prop} {cells slots : Nat} {x3 : Int32} (OK : en_OK) (WK : en_WK l) (C : lw_C p s m meth c b L xs cA D) (hrm : cells ≤ room_1.cells ∧ slots ≤ room_1.slots) (hin1 : vp_in (x3 + 1) L) (hin2 : vp_in (x3 + 2) L) (hin3 : vp_in (x3 + 3) L) (hin4 : vp_in (x3 + 4) L) (hin5 : vp_in (x3 + 5) L) (hl : lv_has ls 4 [(3, .int x3), (0, .ref b), (1, .ref (ad r_WA 0)), (2, .ref (ad r_Md 0))]) (hP : va_P D classes (en_W ad cA σ) H) (hD : va_D (fun q => s.heap.size ≤ q) (en_W ad cA σ)) (hS : va_S (fun q => s.heap.size ≤ q) s.heap H locs) (hX : iX σ) (kk : ∀ (σ2 : en_m) (H2 : Heap) (locs2 : List Loc), iX σ2 → va_P D classes (en_W ad cA σ2) H2 → va_S (fun q => s.heap.size ≤ q) s.heap H2 locs2 → W p l e room_1 s m #[Value.ref b] below meth c H2 locs2 cells slots Q (F0 m 1198 ls [])) : W p l e room_1 s m #[Value.ref b] below meth c H locs cells slots Q (F0 m 360 ls []) := by
  obtain ⟨nn, DD, pp, LW, hV⟩ := hX
  obtain ⟨⟨hx, hb, hr, hml, hown, hts, hXs, hbl, hlocks, hgv⟩, hK, hXx⟩ := id C
  have hbA : ¬ (fun q : Nat => s.heap.size ≤ q) b := Nat.not_le.mpr hbl
  obtain ⟨r1, σ1, E2, M1⟩ := en_meth OK WK (a := z_X11_words) (by decide) (lok_2 mem_WA) (Nat.le_of_ble_eq_true rfl) (eq_words hV (i32_of (xs (x3 + 1).toNatClampNeg)) (i32_of (xs (x3 + 2).toNatClampNeg)))
  obtain ⟨r2, σ2, ⟨⟨v, hv1, hv2⟩, hX2⟩, M2⟩ := en_meth OK WK (a := z_X12_words) (by decide) (lok_2 mem_Md) (Nat.le_of_ble_eq_true rfl) E2
  subst hv1 hv2
  refine lv_aload_n hx hb d_law_360 rfl (lv_at hl 2 rfl) ?_
  refine lv_aload_n hx hb d_law_361 rfl (lv_at hl 1 rfl) ?_
  refine lv_iload_n hx hb d_law_362 rfl (lv_at hl 0 rfl) ?_
  refine lv_iconst (v := 1) hx hb d_law_363 (by decide) ?_
  refine lv_iadd hx hb d_law_364 ?_
  refine va_sld hx hb hXs hbl hbA hS hin1 d_law_365 ?_
  refine lv_aload_n hx hb d_law_366 rfl (lv_at hl 1 rfl) ?_
  refine lv_iload_n hx hb d_law_367 rfl (lv_at hl 0 rfl) ?_
  refine lv_iconst (v := 2) hx hb d_law_368 (by decide) ?_
  refine lv_iadd hx hb d_law_369 ?_
  refine va_sld hx hb hXs hbl hbA hS hin2 d_law_370 ?_
  refine lw_call OK (by decide) C hP hD hS hl.1 M1 mem_WA rfl rfl rfl rfl rfl lk1_words ⟨Nat.le_of_ble_eq_true rfl, Nat.le_of_ble_eq_true rfl⟩ (Nat.le_of_ble_eq_true rfl) d_law_371 hrm lst_2 (fun H1 locs1 hP1 hS1 => ?_)
  refine lv_aload_n hx hb d_law_374 rfl (lv_at hl 3 rfl) ?_
  refine lv_aload_n hx hb d_law_375 rfl (lv_at hl 1 rfl) ?_
  refine lv_iload_n hx hb d_law_376 rfl (lv_at hl 0 rfl) ?_
  refine lv_iconst (v := 1) hx hb d_law_377 (by decide) ?_
  refine lv_iadd hx hb d_law_378 ?_
  refine va_sld hx hb hXs hbl hbA hS1 hin1 d_law_379 ?_
  refine lv_aload_n hx hb d_law_380 rfl (lv_at hl 1 rfl) ?_
  refine lv_iload_n hx hb d_law_381 rfl (lv_at hl 0 rfl) ?_
  refine lv_iconst (v := 2) hx hb d_law_382 (by decide) ?_
  refine lv_iadd hx hb d_law_383 ?_
  refine va_sld hx hb hXs hbl hbA hS1 hin2 d_law_384 ?_
  refine lw_call OK (by decide) C hP1 (lw_D hD) hS1 hl.1 M2 mem_Md rfl rfl rfl rfl rfl lk2_words ⟨Nat.le_of_ble_eq_true rfl, Nat.le_of_ble_eq_true rfl⟩ (Nat.le_of_ble_eq_true rfl) d_law_385 hrm lst_2 (fun H2 locs2 hP2 hS2 => ?_)
  refine W.eq (g2 := F0 m 388 ls [.int (Int32.ofInt v), .int (Int32.ofInt v)]) rfl ?_
  exact lv_icmp_eq (tgt := 1198) hx hb d_law_388 (by decide) (fun _ => kk σ2 H2 locs2 hX2 hP2 hS2) (fun z => absurd rfl z)
theorem lw_c_put {p : Program} {l : Launch} {e : Env} {s : State} {m : MethodId} {b L : Nat} {xs : Nat → Int32} {below : List Frame} {meth : Method} {c : Code} {ad : Nat → Int → Nat} {cA : Nat → ClassId} {D : va_G} {ls : Array Slot} {H : Heap} {locs : List Loc} {σ : en_m} {Q : State → Prop} {cells slots : Nat} {x3 : Int32} (OK : en_OK) (WK : en_WK l) (C : lw_C p s m meth c b L xs cA D) (hrm : cells ≤ room_1.cells ∧ slots ≤ room_1.slots) (hin1 : vp_in (x3 + 1) L) (hin2 : vp_in (x3 + 2) L) (hin3 : vp_in (x3 + 3) L) (hin4 : vp_in (x3 + 4) L) (hin5 : vp_in (x3 + 5) L) (hl : lv_has ls 4 [(3, .int x3), (0, .ref b), (1, .ref (ad r_WA 0)), (2, .ref (ad r_Md 0))]) (hP : va_P D classes (en_W ad cA σ) H) (hD : va_D (fun q => s.heap.size ≤ q) (en_W ad cA σ)) (hS : va_S (fun q => s.heap.size ≤ q) s.heap H locs) (hX : iX σ) (kk : ∀ (σ2 : en_m) (H2 : Heap) (locs2 : List Loc), iX σ2 → va_P D classes (en_W ad cA σ2) H2 → va_S (fun q => s.heap.size ≤ q) s.heap H2 locs2 → W p l e room_1 s m #[Value.ref b] below meth c H2 locs2 cells slots Q (F0 m 1198 ls [])) : W p l e room_1 s m #[Value.ref b] below meth c H locs cells slots Q (F0 m 393 ls []) := by
  obtain ⟨nn, DD, pp, LW, hV⟩ := hX
  obtain ⟨⟨hx, hb, hr, hml, hown, hts, hXs, hbl, hlocks, hgv⟩, hK, hXx⟩ := id C
  have hbA : ¬ (fun q : Nat => s.heap.size ≤ q) b := Nat.not_le.mpr hbl
  obtain ⟨r1, σ1, E2, M1⟩ := en_meth OK WK (a := z_X11_put) (by decide) (lok_3 mem_WA) (Nat.le_of_ble_eq_true rfl) (eq_put hV (i32_of (xs (x3 + 1).toNatClampNeg)) (i32_of (xs (x3 + 2).toNatClampNeg)) (i32_of (xs (x3 + 3).toNatClampNeg)))
  obtain ⟨r2, σ2, ⟨⟨v, hv1, hv2⟩, hX2⟩, M2⟩ := en_meth OK WK (a := z_X12_put_) (by decide) (lok_3 mem_Md) (Nat.le_of_ble_eq_true rfl) E2
  subst hv1 hv2
  refine lv_aload_n hx hb d_law_393 rfl (lv_at hl 2 rfl) ?_
  refine lv_aload_n hx hb d_law_394 rfl (lv_at hl 1 rfl) ?_
  refine lv_iload_n hx hb d_law_395 rfl (lv_at hl 0 rfl) ?_
  refine lv_iconst (v := 1) hx hb d_law_396 (by decide) ?_
  refine lv_iadd hx hb d_law_397 ?_
  refine va_sld hx hb hXs hbl hbA hS hin1 d_law_398 ?_
  refine lv_aload_n hx hb d_law_399 rfl (lv_at hl 1 rfl) ?_
  refine lv_iload_n hx hb d_law_400 rfl (lv_at hl 0 rfl) ?_
  refine lv_iconst (v := 2) hx hb d_law_401 (by decide) ?_
  refine lv_iadd hx hb d_law_402 ?_
  refine va_sld hx hb hXs hbl hbA hS hin2 d_law_403 ?_
  refine lv_aload_n hx hb d_law_404 rfl (lv_at hl 1 rfl) ?_
  refine lv_iload_n hx hb d_law_405 rfl (lv_at hl 0 rfl) ?_
  refine lv_iconst (v := 3) hx hb d_law_406 (by decide) ?_
  refine lv_iadd hx hb d_law_407 ?_
  refine va_sld hx hb hXs hbl hbA hS hin3 d_law_408 ?_
  refine lw_call OK (by decide) C hP hD hS hl.1 M1 mem_WA rfl rfl rfl rfl rfl lk1_put ⟨Nat.le_of_ble_eq_true rfl, Nat.le_of_ble_eq_true rfl⟩ (Nat.le_of_ble_eq_true rfl) d_law_409 hrm lst_3 (fun H1 locs1 hP1 hS1 => ?_)
  refine lv_aload_n hx hb d_law_412 rfl (lv_at hl 3 rfl) ?_
  refine lv_aload_n hx hb d_law_413 rfl (lv_at hl 1 rfl) ?_
  refine lv_iload_n hx hb d_law_414 rfl (lv_at hl 0 rfl) ?_
  refine lv_iconst (v := 1) hx hb d_law_415 (by decide) ?_
  refine lv_iadd hx hb d_law_416 ?_
  refine va_sld hx hb hXs hbl hbA hS1 hin1 d_law_417 ?_
  refine lv_aload_n hx hb d_law_418 rfl (lv_at hl 1 rfl) ?_
  refine lv_iload_n hx hb d_law_419 rfl (lv_at hl 0 rfl) ?_
  refine lv_iconst (v := 2) hx hb d_law_420 (by decide) ?_
  refine lv_iadd hx hb d_law_421 ?_
  refine va_sld hx hb hXs hbl hbA hS1 hin2 d_law_422 ?_
  refine lv_aload_n hx hb d_law_423 rfl (lv_at hl 1 rfl) ?_
  refine lv_iload_n hx hb d_law_424 rfl (lv_at hl 0 rfl) ?_
  refine lv_iconst (v := 3) hx hb d_law_425 (by decide) ?_
  refine lv_iadd hx hb d_law_426 ?_
  refine va_sld hx hb hXs hbl hbA hS1 hin3 d_law_427 ?_
  refine lw_call OK (by decide) C hP1 (lw_D hD) hS1 hl.1 M2 mem_Md rfl rfl rfl rfl rfl lk2_put ⟨Nat.le_of_ble_eq_true rfl, Nat.le_of_ble_eq_true rfl⟩ (Nat.le_of_ble_eq_true rfl) d_law_428 hrm lst_3 (fun H2 locs2 hP2 hS2 => ?_)
  refine W.eq (g2 := F0 m 431 ls [.int (Int32.ofInt v), .int (Int32.ofInt v)]) rfl ?_
  exact lv_icmp_eq (tgt := 1198) hx hb d_law_431 (by decide) (fun _ => kk σ2 H2 locs2 hX2 hP2 hS2) (fun z => absurd rfl z)
theorem lw_c_add {p : Program} {l : Launch} {e : Env} {s : State} {m : MethodId} {b L : Nat} {xs : Nat → Int32} {below : List Frame} {meth : Method} {c : Code} {ad : Nat → Int → Nat} {cA : Nat → ClassId} {D : va_G} {ls : Array Slot} {H : Heap} {locs : List Loc} {σ : en_m} {Q : State → Prop} {cells slots : Nat} {x3 : Int32} (OK : en_OK) (WK : en_WK l) (C : lw_C p s m meth c b L xs cA D) (hrm : cells ≤ room_1.cells ∧ slots ≤ room_1.slots) (hin1 : vp_in (x3 + 1) L) (hin2 : vp_in (x3 + 2) L) (hin3 : vp_in (x3 + 3) L) (hin4 : vp_in (x3 + 4) L) (hin5 : vp_in (x3 + 5) L) (hl : lv_has ls 4 [(3, .int x3), (0, .ref b), (1, .ref (ad r_WA 0)), (2, .ref (ad r_Md 0))]) (hP : va_P D classes (en_W ad cA σ) H) (hD : va_D (fun q => s.heap.size ≤ q) (en_W ad cA σ)) (hS : va_S (fun q => s.heap.size ≤ q) s.heap H locs) (hX : iX σ) (kk : ∀ (σ2 : en_m) (H2 : Heap) (locs2 : List Loc), iX σ2 → va_P D classes (en_W ad cA σ2) H2 → va_S (fun q => s.heap.size ≤ q) s.heap H2 locs2 → W p l e room_1 s m #[Value.ref b] below meth c H2 locs2 cells slots Q (F0 m 1198 ls [])) : W p l e room_1 s m #[Value.ref b] below meth c H locs cells slots Q (F0 m 436 ls []) := by
  obtain ⟨nn, DD, pp, LW, hV⟩ := hX
  obtain ⟨⟨hx, hb, hr, hml, hown, hts, hXs, hbl, hlocks, hgv⟩, hK, hXx⟩ := id C
  have hbA : ¬ (fun q : Nat => s.heap.size ≤ q) b := Nat.not_le.mpr hbl
  obtain ⟨r1, σ1, E2, M1⟩ := en_meth OK WK (a := z_X11_add) (by decide) (lok_4 mem_WA) (Nat.le_of_ble_eq_true rfl) (eq_add hV (i32_of (xs (x3 + 1).toNatClampNeg)) (i32_of (xs (x3 + 2).toNatClampNeg)) (i32_of (xs (x3 + 3).toNatClampNeg)) (i32_of (xs (x3 + 4).toNatClampNeg)))
  obtain ⟨r2, σ2, ⟨⟨v, hv1, hv2⟩, hX2⟩, M2⟩ := en_meth OK WK (a := z_X12_add) (by decide) (lok_4 mem_Md) (Nat.le_of_ble_eq_true rfl) E2
  subst hv1 hv2
  refine lv_aload_n hx hb d_law_436 rfl (lv_at hl 2 rfl) ?_
  refine lv_aload_n hx hb d_law_437 rfl (lv_at hl 1 rfl) ?_
  refine lv_iload_n hx hb d_law_438 rfl (lv_at hl 0 rfl) ?_
  refine lv_iconst (v := 1) hx hb d_law_439 (by decide) ?_
  refine lv_iadd hx hb d_law_440 ?_
  refine va_sld hx hb hXs hbl hbA hS hin1 d_law_441 ?_
  refine lv_aload_n hx hb d_law_442 rfl (lv_at hl 1 rfl) ?_
  refine lv_iload_n hx hb d_law_443 rfl (lv_at hl 0 rfl) ?_
  refine lv_iconst (v := 2) hx hb d_law_444 (by decide) ?_
  refine lv_iadd hx hb d_law_445 ?_
  refine va_sld hx hb hXs hbl hbA hS hin2 d_law_446 ?_
  refine lv_aload_n hx hb d_law_447 rfl (lv_at hl 1 rfl) ?_
  refine lv_iload_n hx hb d_law_448 rfl (lv_at hl 0 rfl) ?_
  refine lv_iconst (v := 3) hx hb d_law_449 (by decide) ?_
  refine lv_iadd hx hb d_law_450 ?_
  refine va_sld hx hb hXs hbl hbA hS hin3 d_law_451 ?_
  refine lv_aload_n hx hb d_law_452 rfl (lv_at hl 1 rfl) ?_
  refine lv_iload_n hx hb d_law_453 rfl (lv_at hl 0 rfl) ?_
  refine lv_iconst (v := 4) hx hb d_law_454 (by decide) ?_
  refine lv_iadd hx hb d_law_455 ?_
  refine va_sld hx hb hXs hbl hbA hS hin4 d_law_456 ?_
  refine lw_call OK (by decide) C hP hD hS hl.1 M1 mem_WA rfl rfl rfl rfl rfl lk1_add ⟨Nat.le_of_ble_eq_true rfl, Nat.le_of_ble_eq_true rfl⟩ (Nat.le_of_ble_eq_true rfl) d_law_457 hrm lst_4 (fun H1 locs1 hP1 hS1 => ?_)
  refine lv_aload_n hx hb d_law_460 rfl (lv_at hl 3 rfl) ?_
  refine lv_aload_n hx hb d_law_461 rfl (lv_at hl 1 rfl) ?_
  refine lv_iload_n hx hb d_law_462 rfl (lv_at hl 0 rfl) ?_
  refine lv_iconst (v := 1) hx hb d_law_463 (by decide) ?_
  refine lv_iadd hx hb d_law_464 ?_
  refine va_sld hx hb hXs hbl hbA hS1 hin1 d_law_465 ?_
  refine lv_aload_n hx hb d_law_466 rfl (lv_at hl 1 rfl) ?_
  refine lv_iload_n hx hb d_law_467 rfl (lv_at hl 0 rfl) ?_
  refine lv_iconst (v := 2) hx hb d_law_468 (by decide) ?_
  refine lv_iadd hx hb d_law_469 ?_
  refine va_sld hx hb hXs hbl hbA hS1 hin2 d_law_470 ?_
  refine lv_aload_n hx hb d_law_471 rfl (lv_at hl 1 rfl) ?_
  refine lv_iload_n hx hb d_law_472 rfl (lv_at hl 0 rfl) ?_
  refine lv_iconst (v := 3) hx hb d_law_473 (by decide) ?_
  refine lv_iadd hx hb d_law_474 ?_
  refine va_sld hx hb hXs hbl hbA hS1 hin3 d_law_475 ?_
  refine lv_aload_n hx hb d_law_476 rfl (lv_at hl 1 rfl) ?_
  refine lv_iload_n hx hb d_law_477 rfl (lv_at hl 0 rfl) ?_
  refine lv_iconst (v := 4) hx hb d_law_478 (by decide) ?_
  refine lv_iadd hx hb d_law_479 ?_
  refine va_sld hx hb hXs hbl hbA hS1 hin4 d_law_480 ?_
  refine lw_call OK (by decide) C hP1 (lw_D hD) hS1 hl.1 M2 mem_Md rfl rfl rfl rfl rfl lk2_add ⟨Nat.le_of_ble_eq_true rfl, Nat.le_of_ble_eq_true rfl⟩ (Nat.le_of_ble_eq_true rfl) d_law_481 hrm lst_4 (fun H2 locs2 hP2 hS2 => ?_)
  refine W.eq (g2 := F0 m 484 ls [.int (Int32.ofInt v), .int (Int32.ofInt v)]) rfl ?_
  exact lv_icmp_eq (tgt := 1198) hx hb d_law_484 (by decide) (fun _ => kk σ2 H2 locs2 hX2 hP2 hS2) (fun z => absurd rfl z)
theorem lw_c_multiply {p : Program} {l : Launch} {e : Env} {s : State} {m : MethodId} {b L : Nat} {xs : Nat → Int32} {below : List Frame} {meth : Method} {c : Code} {ad : Nat → Int → Nat} {cA : Nat → ClassId} {D : va_G} {ls : Array Slot} {H : Heap} {locs : List Loc} {σ : en_m} {Q : State → Prop} {cells slots : Nat} {x3 : Int32} (OK : en_OK) (WK : en_WK l) (C : lw_C p s m meth c b L xs cA D) (hrm : cells ≤ room_1.cells ∧ slots ≤ room_1.slots) (hin1 : vp_in (x3 + 1) L) (hin2 : vp_in (x3 + 2) L) (hin3 : vp_in (x3 + 3) L) (hin4 : vp_in (x3 + 4) L) (hin5 : vp_in (x3 + 5) L) (hl : lv_has ls 4 [(3, .int x3), (0, .ref b), (1, .ref (ad r_WA 0)), (2, .ref (ad r_Md 0))]) (hP : va_P D classes (en_W ad cA σ) H) (hD : va_D (fun q => s.heap.size ≤ q) (en_W ad cA σ)) (hS : va_S (fun q => s.heap.size ≤ q) s.heap H locs) (hX : iX σ) (kk : ∀ (σ2 : en_m) (H2 : Heap) (locs2 : List Loc), iX σ2 → va_P D classes (en_W ad cA σ2) H2 → va_S (fun q => s.heap.size ≤ q) s.heap H2 locs2 → W p l e room_1 s m #[Value.ref b] below meth c H2 locs2 cells slots Q (F0 m 1198 ls [])) : W p l e room_1 s m #[Value.ref b] below meth c H locs cells slots Q (F0 m 489 ls []) := by
  obtain ⟨nn, DD, pp, LW, hV⟩ := hX
  obtain ⟨⟨hx, hb, hr, hml, hown, hts, hXs, hbl, hlocks, hgv⟩, hK, hXx⟩ := id C
  have hbA : ¬ (fun q : Nat => s.heap.size ≤ q) b := Nat.not_le.mpr hbl
  obtain ⟨r1, σ1, E2, M1⟩ := en_meth OK WK (a := z_X11_multiply) (by decide) (lok_3 mem_WA) (Nat.le_of_ble_eq_true rfl) (eq_multiply hV (i32_of (xs (x3 + 1).toNatClampNeg)) (i32_of (xs (x3 + 2).toNatClampNeg)) (i32_of (xs (x3 + 3).toNatClampNeg)))
  obtain ⟨r2, σ2, ⟨⟨v, hv1, hv2⟩, hX2⟩, M2⟩ := en_meth OK WK (a := z_X12_multiply) (by decide) (lok_3 mem_Md) (Nat.le_of_ble_eq_true rfl) E2
  subst hv1 hv2
  refine lv_aload_n hx hb d_law_489 rfl (lv_at hl 2 rfl) ?_
  refine lv_aload_n hx hb d_law_490 rfl (lv_at hl 1 rfl) ?_
  refine lv_iload_n hx hb d_law_491 rfl (lv_at hl 0 rfl) ?_
  refine lv_iconst (v := 1) hx hb d_law_492 (by decide) ?_
  refine lv_iadd hx hb d_law_493 ?_
  refine va_sld hx hb hXs hbl hbA hS hin1 d_law_494 ?_
  refine lv_aload_n hx hb d_law_495 rfl (lv_at hl 1 rfl) ?_
  refine lv_iload_n hx hb d_law_496 rfl (lv_at hl 0 rfl) ?_
  refine lv_iconst (v := 2) hx hb d_law_497 (by decide) ?_
  refine lv_iadd hx hb d_law_498 ?_
  refine va_sld hx hb hXs hbl hbA hS hin2 d_law_499 ?_
  refine lv_aload_n hx hb d_law_500 rfl (lv_at hl 1 rfl) ?_
  refine lv_iload_n hx hb d_law_501 rfl (lv_at hl 0 rfl) ?_
  refine lv_iconst (v := 3) hx hb d_law_502 (by decide) ?_
  refine lv_iadd hx hb d_law_503 ?_
  refine va_sld hx hb hXs hbl hbA hS hin3 d_law_504 ?_
  refine lw_call OK (by decide) C hP hD hS hl.1 M1 mem_WA rfl rfl rfl rfl rfl lk1_multiply ⟨Nat.le_of_ble_eq_true rfl, Nat.le_of_ble_eq_true rfl⟩ (Nat.le_of_ble_eq_true rfl) d_law_505 hrm lst_3 (fun H1 locs1 hP1 hS1 => ?_)
  refine lv_aload_n hx hb d_law_508 rfl (lv_at hl 3 rfl) ?_
  refine lv_aload_n hx hb d_law_509 rfl (lv_at hl 1 rfl) ?_
  refine lv_iload_n hx hb d_law_510 rfl (lv_at hl 0 rfl) ?_
  refine lv_iconst (v := 1) hx hb d_law_511 (by decide) ?_
  refine lv_iadd hx hb d_law_512 ?_
  refine va_sld hx hb hXs hbl hbA hS1 hin1 d_law_513 ?_
  refine lv_aload_n hx hb d_law_514 rfl (lv_at hl 1 rfl) ?_
  refine lv_iload_n hx hb d_law_515 rfl (lv_at hl 0 rfl) ?_
  refine lv_iconst (v := 2) hx hb d_law_516 (by decide) ?_
  refine lv_iadd hx hb d_law_517 ?_
  refine va_sld hx hb hXs hbl hbA hS1 hin2 d_law_518 ?_
  refine lv_aload_n hx hb d_law_519 rfl (lv_at hl 1 rfl) ?_
  refine lv_iload_n hx hb d_law_520 rfl (lv_at hl 0 rfl) ?_
  refine lv_iconst (v := 3) hx hb d_law_521 (by decide) ?_
  refine lv_iadd hx hb d_law_522 ?_
  refine va_sld hx hb hXs hbl hbA hS1 hin3 d_law_523 ?_
  refine lw_call OK (by decide) C hP1 (lw_D hD) hS1 hl.1 M2 mem_Md rfl rfl rfl rfl rfl lk2_multiply ⟨Nat.le_of_ble_eq_true rfl, Nat.le_of_ble_eq_true rfl⟩ (Nat.le_of_ble_eq_true rfl) d_law_524 hrm lst_3 (fun H2 locs2 hP2 hS2 => ?_)
  refine W.eq (g2 := F0 m 527 ls [.int (Int32.ofInt v), .int (Int32.ofInt v)]) rfl ?_
  exact lv_icmp_eq (tgt := 1198) hx hb d_law_527 (by decide) (fun _ => kk σ2 H2 locs2 hX2 hP2 hS2) (fun z => absurd rfl z)
theorem lw_c_commute {p : Program} {l : Launch} {e : Env} {s : State} {m : MethodId} {b L : Nat} {xs : Nat → Int32} {below : List Frame} {meth : Method} {c : Code} {ad : Nat → Int → Nat} {cA : Nat → ClassId} {D : va_G} {ls : Array Slot} {H : Heap} {locs : List Loc} {σ : en_m} {Q : State → Prop} {cells slots : Nat} {x3 : Int32} (OK : en_OK) (WK : en_WK l) (C : lw_C p s m meth c b L xs cA D) (hrm : cells ≤ room_1.cells ∧ slots ≤ room_1.slots) (hin1 : vp_in (x3 + 1) L) (hin2 : vp_in (x3 + 2) L) (hin3 : vp_in (x3 + 3) L) (hin4 : vp_in (x3 + 4) L) (hin5 : vp_in (x3 + 5) L) (hl : lv_has ls 4 [(3, .int x3), (0, .ref b), (1, .ref (ad r_WA 0)), (2, .ref (ad r_Md 0))]) (hP : va_P D classes (en_W ad cA σ) H) (hD : va_D (fun q => s.heap.size ≤ q) (en_W ad cA σ)) (hS : va_S (fun q => s.heap.size ≤ q) s.heap H locs) (hX : iX σ) (kk : ∀ (σ2 : en_m) (H2 : Heap) (locs2 : List Loc), iX σ2 → va_P D classes (en_W ad cA σ2) H2 → va_S (fun q => s.heap.size ≤ q) s.heap H2 locs2 → W p l e room_1 s m #[Value.ref b] below meth c H2 locs2 cells slots Q (F0 m 1198 ls [])) : W p l e room_1 s m #[Value.ref b] below meth c H locs cells slots Q (F0 m 532 ls []) := by
  obtain ⟨nn, DD, pp, LW, hV⟩ := hX
  obtain ⟨⟨hx, hb, hr, hml, hown, hts, hXs, hbl, hlocks, hgv⟩, hK, hXx⟩ := id C
  have hbA : ¬ (fun q : Nat => s.heap.size ≤ q) b := Nat.not_le.mpr hbl
  obtain ⟨r1, σ1, E2, M1⟩ := en_meth OK WK (a := z_X11_commute) (by decide) (lok_3 mem_WA) (Nat.le_of_ble_eq_true rfl) (eq_commute hV (i32_of (xs (x3 + 1).toNatClampNeg)) (i32_of (xs (x3 + 2).toNatClampNeg)) (i32_of (xs (x3 + 3).toNatClampNeg)))
  obtain ⟨r2, σ2, ⟨⟨v, hv1, hv2⟩, hX2⟩, M2⟩ := en_meth OK WK (a := z_X12_commute) (by decide) (lok_3 mem_Md) (Nat.le_of_ble_eq_true rfl) E2
  subst hv1 hv2
  refine lv_aload_n hx hb d_law_532 rfl (lv_at hl 2 rfl) ?_
  refine lv_aload_n hx hb d_law_533 rfl (lv_at hl 1 rfl) ?_
  refine lv_iload_n hx hb d_law_534 rfl (lv_at hl 0 rfl) ?_
  refine lv_iconst (v := 1) hx hb d_law_535 (by decide) ?_
  refine lv_iadd hx hb d_law_536 ?_
  refine va_sld hx hb hXs hbl hbA hS hin1 d_law_537 ?_
  refine lv_aload_n hx hb d_law_538 rfl (lv_at hl 1 rfl) ?_
  refine lv_iload_n hx hb d_law_539 rfl (lv_at hl 0 rfl) ?_
  refine lv_iconst (v := 2) hx hb d_law_540 (by decide) ?_
  refine lv_iadd hx hb d_law_541 ?_
  refine va_sld hx hb hXs hbl hbA hS hin2 d_law_542 ?_
  refine lv_aload_n hx hb d_law_543 rfl (lv_at hl 1 rfl) ?_
  refine lv_iload_n hx hb d_law_544 rfl (lv_at hl 0 rfl) ?_
  refine lv_iconst (v := 3) hx hb d_law_545 (by decide) ?_
  refine lv_iadd hx hb d_law_546 ?_
  refine va_sld hx hb hXs hbl hbA hS hin3 d_law_547 ?_
  refine lw_call OK (by decide) C hP hD hS hl.1 M1 mem_WA rfl rfl rfl rfl rfl lk1_commute ⟨Nat.le_of_ble_eq_true rfl, Nat.le_of_ble_eq_true rfl⟩ (Nat.le_of_ble_eq_true rfl) d_law_548 hrm lst_3 (fun H1 locs1 hP1 hS1 => ?_)
  refine lv_aload_n hx hb d_law_551 rfl (lv_at hl 3 rfl) ?_
  refine lv_aload_n hx hb d_law_552 rfl (lv_at hl 1 rfl) ?_
  refine lv_iload_n hx hb d_law_553 rfl (lv_at hl 0 rfl) ?_
  refine lv_iconst (v := 1) hx hb d_law_554 (by decide) ?_
  refine lv_iadd hx hb d_law_555 ?_
  refine va_sld hx hb hXs hbl hbA hS1 hin1 d_law_556 ?_
  refine lv_aload_n hx hb d_law_557 rfl (lv_at hl 1 rfl) ?_
  refine lv_iload_n hx hb d_law_558 rfl (lv_at hl 0 rfl) ?_
  refine lv_iconst (v := 2) hx hb d_law_559 (by decide) ?_
  refine lv_iadd hx hb d_law_560 ?_
  refine va_sld hx hb hXs hbl hbA hS1 hin2 d_law_561 ?_
  refine lv_aload_n hx hb d_law_562 rfl (lv_at hl 1 rfl) ?_
  refine lv_iload_n hx hb d_law_563 rfl (lv_at hl 0 rfl) ?_
  refine lv_iconst (v := 3) hx hb d_law_564 (by decide) ?_
  refine lv_iadd hx hb d_law_565 ?_
  refine va_sld hx hb hXs hbl hbA hS1 hin3 d_law_566 ?_
  refine lw_call OK (by decide) C hP1 (lw_D hD) hS1 hl.1 M2 mem_Md rfl rfl rfl rfl rfl lk2_commute ⟨Nat.le_of_ble_eq_true rfl, Nat.le_of_ble_eq_true rfl⟩ (Nat.le_of_ble_eq_true rfl) d_law_567 hrm lst_3 (fun H2 locs2 hP2 hS2 => ?_)
  refine W.eq (g2 := F0 m 570 ls [.int (Int32.ofInt v), .int (Int32.ofInt v)]) rfl ?_
  exact lv_icmp_eq (tgt := 1198) hx hb d_law_570 (by decide) (fun _ => kk σ2 H2 locs2 hX2 hP2 hS2) (fun z => absurd rfl z)
theorem lw_c_plain {p : Program} {l : Launch} {e : Env} {s : State} {m : MethodId} {b L : Nat} {xs : Nat → Int32} {below : List Frame} {meth : Method} {c : Code} {ad : Nat → Int → Nat} {cA : Nat → ClassId} {D : va_G} {ls : Array Slot} {H : Heap} {locs : List Loc} {σ : en_m} {Q : State → Prop} {cells slots : Nat} {x3 : Int32} (OK : en_OK) (WK : en_WK l) (C : lw_C p s m meth c b L xs cA D) (hrm : cells ≤ room_1.cells ∧ slots ≤ room_1.slots) (hin1 : vp_in (x3 + 1) L) (hin2 : vp_in (x3 + 2) L) (hin3 : vp_in (x3 + 3) L) (hin4 : vp_in (x3 + 4) L) (hin5 : vp_in (x3 + 5) L) (hl : lv_has ls 4 [(3, .int x3), (0, .ref b), (1, .ref (ad r_WA 0)), (2, .ref (ad r_Md 0))]) (hP : va_P D classes (en_W ad cA σ) H) (hD : va_D (fun q => s.heap.size ≤ q) (en_W ad cA σ)) (hS : va_S (fun q => s.heap.size ≤ q) s.heap H locs) (hX : iX σ) (kk : ∀ (σ2 : en_m) (H2 : Heap) (locs2 : List Loc), iX σ2 → va_P D classes (en_W ad cA σ2) H2 → va_S (fun q => s.heap.size ≤ q) s.heap H2 locs2 → W p l e room_1 s m #[Value.ref b] below meth c H2 locs2 cells slots Q (F0 m 1198 ls [])) : W p l e room_1 s m #[Value.ref b] below meth c H locs cells slots Q (F0 m 575 ls []) := by
  obtain ⟨nn, DD, pp, LW, hV⟩ := hX
  obtain ⟨⟨hx, hb, hr, hml, hown, hts, hXs, hbl, hlocks, hgv⟩, hK, hXx⟩ := id C
  have hbA : ¬ (fun q : Nat => s.heap.size ≤ q) b := Nat.not_le.mpr hbl
  obtain ⟨r1, σ1, E2, M1⟩ := en_meth OK WK (a := z_X11_plain) (by decide) (lok_1 mem_WA) (Nat.le_of_ble_eq_true rfl) (eq_plain hV (i32_of (xs (x3 + 1).toNatClampNeg)))
  obtain ⟨r2, σ2, ⟨⟨v, hv1, hv2⟩, hX2⟩, M2⟩ := en_meth OK WK (a := z_X12_plain) (by decide) (lok_1 mem_Md) (Nat.le_of_ble_eq_true rfl) E2
  subst hv1 hv2
  refine lv_aload_n hx hb d_law_575 rfl (lv_at hl 2 rfl) ?_
  refine lv_aload_n hx hb d_law_576 rfl (lv_at hl 1 rfl) ?_
  refine lv_iload_n hx hb d_law_577 rfl (lv_at hl 0 rfl) ?_
  refine lv_iconst (v := 1) hx hb d_law_578 (by decide) ?_
  refine lv_iadd hx hb d_law_579 ?_
  refine va_sld hx hb hXs hbl hbA hS hin1 d_law_580 ?_
  refine lw_call OK (by decide) C hP hD hS hl.1 M1 mem_WA rfl rfl rfl rfl rfl lk1_plain ⟨Nat.le_of_ble_eq_true rfl, Nat.le_of_ble_eq_true rfl⟩ (Nat.le_of_ble_eq_true rfl) d_law_581 hrm lst_1 (fun H1 locs1 hP1 hS1 => ?_)
  refine lv_aload_n hx hb d_law_584 rfl (lv_at hl 3 rfl) ?_
  refine lv_aload_n hx hb d_law_585 rfl (lv_at hl 1 rfl) ?_
  refine lv_iload_n hx hb d_law_586 rfl (lv_at hl 0 rfl) ?_
  refine lv_iconst (v := 1) hx hb d_law_587 (by decide) ?_
  refine lv_iadd hx hb d_law_588 ?_
  refine va_sld hx hb hXs hbl hbA hS1 hin1 d_law_589 ?_
  refine lw_call OK (by decide) C hP1 (lw_D hD) hS1 hl.1 M2 mem_Md rfl rfl rfl rfl rfl lk2_plain ⟨Nat.le_of_ble_eq_true rfl, Nat.le_of_ble_eq_true rfl⟩ (Nat.le_of_ble_eq_true rfl) d_law_590 hrm lst_1 (fun H2 locs2 hP2 hS2 => ?_)
  refine W.eq (g2 := F0 m 593 ls [.int (Int32.ofInt v), .int (Int32.ofInt v)]) rfl ?_
  exact lv_icmp_eq (tgt := 1198) hx hb d_law_593 (by decide) (fun _ => kk σ2 H2 locs2 hX2 hP2 hS2) (fun z => absurd rfl z)
theorem lw_c_power {p : Program} {l : Launch} {e : Env} {s : State} {m : MethodId} {b L : Nat} {xs : Nat → Int32} {below : List Frame} {meth : Method} {c : Code} {ad : Nat → Int → Nat} {cA : Nat → ClassId} {D : va_G} {ls : Array Slot} {H : Heap} {locs : List Loc} {σ : en_m} {Q : State → Prop} {cells slots : Nat} {x3 : Int32} (OK : en_OK) (WK : en_WK l) (C : lw_C p s m meth c b L xs cA D) (hrm : cells ≤ room_1.cells ∧ slots ≤ room_1.slots) (hin1 : vp_in (x3 + 1) L) (hin2 : vp_in (x3 + 2) L) (hin3 : vp_in (x3 + 3) L) (hin4 : vp_in (x3 + 4) L) (hin5 : vp_in (x3 + 5) L) (hl : lv_has ls 4 [(3, .int x3), (0, .ref b), (1, .ref (ad r_WA 0)), (2, .ref (ad r_Md 0))]) (hP : va_P D classes (en_W ad cA σ) H) (hD : va_D (fun q => s.heap.size ≤ q) (en_W ad cA σ)) (hS : va_S (fun q => s.heap.size ≤ q) s.heap H locs) (hX : iX σ) (kk : ∀ (σ2 : en_m) (H2 : Heap) (locs2 : List Loc), iX σ2 → va_P D classes (en_W ad cA σ2) H2 → va_S (fun q => s.heap.size ≤ q) s.heap H2 locs2 → W p l e room_1 s m #[Value.ref b] below meth c H2 locs2 cells slots Q (F0 m 1198 ls [])) : W p l e room_1 s m #[Value.ref b] below meth c H locs cells slots Q (F0 m 598 ls []) := by
  obtain ⟨nn, DD, pp, LW, hV⟩ := hX
  obtain ⟨⟨hx, hb, hr, hml, hown, hts, hXs, hbl, hlocks, hgv⟩, hK, hXx⟩ := id C
  have hbA : ¬ (fun q : Nat => s.heap.size ≤ q) b := Nat.not_le.mpr hbl
  obtain ⟨r1, σ1, E2, M1⟩ := en_meth OK WK (a := z_X11_power) (by decide) (lok_1 mem_WA) (Nat.le_of_ble_eq_true rfl) (eq_power hV (i32_of (xs (x3 + 1).toNatClampNeg)))
  obtain ⟨r2, σ2, ⟨⟨v, hv1, hv2⟩, hX2⟩, M2⟩ := en_meth OK WK (a := z_X12_power_) (by decide) (lok_1 mem_Md) (Nat.le_of_ble_eq_true rfl) E2
  subst hv1 hv2
  refine lv_aload_n hx hb d_law_598 rfl (lv_at hl 2 rfl) ?_
  refine lv_aload_n hx hb d_law_599 rfl (lv_at hl 1 rfl) ?_
  refine lv_iload_n hx hb d_law_600 rfl (lv_at hl 0 rfl) ?_
  refine lv_iconst (v := 1) hx hb d_law_601 (by decide) ?_
  refine lv_iadd hx hb d_law_602 ?_
  refine va_sld hx hb hXs hbl hbA hS hin1 d_law_603 ?_
  refine lw_call OK (by decide) C hP hD hS hl.1 M1 mem_WA rfl rfl rfl rfl rfl lk1_power ⟨Nat.le_of_ble_eq_true rfl, Nat.le_of_ble_eq_true rfl⟩ (Nat.le_of_ble_eq_true rfl) d_law_604 hrm lst_1 (fun H1 locs1 hP1 hS1 => ?_)
  refine lv_aload_n hx hb d_law_607 rfl (lv_at hl 3 rfl) ?_
  refine lv_aload_n hx hb d_law_608 rfl (lv_at hl 1 rfl) ?_
  refine lv_iload_n hx hb d_law_609 rfl (lv_at hl 0 rfl) ?_
  refine lv_iconst (v := 1) hx hb d_law_610 (by decide) ?_
  refine lv_iadd hx hb d_law_611 ?_
  refine va_sld hx hb hXs hbl hbA hS1 hin1 d_law_612 ?_
  refine lw_call OK (by decide) C hP1 (lw_D hD) hS1 hl.1 M2 mem_Md rfl rfl rfl rfl rfl lk2_power ⟨Nat.le_of_ble_eq_true rfl, Nat.le_of_ble_eq_true rfl⟩ (Nat.le_of_ble_eq_true rfl) d_law_613 hrm lst_1 (fun H2 locs2 hP2 hS2 => ?_)
  refine W.eq (g2 := F0 m 616 ls [.int (Int32.ofInt v), .int (Int32.ofInt v)]) rfl ?_
  exact lv_icmp_eq (tgt := 1198) hx hb d_law_616 (by decide) (fun _ => kk σ2 H2 locs2 hX2 hP2 hS2) (fun z => absurd rfl z)
theorem lw_c_alike {p : Program} {l : Launch} {e : Env} {s : State} {m : MethodId} {b L : Nat} {xs : Nat → Int32} {below : List Frame} {meth : Method} {c : Code} {ad : Nat → Int → Nat} {cA : Nat → ClassId} {D : va_G} {ls : Array Slot} {H : Heap} {locs : List Loc} {σ : en_m} {Q : State → Prop} {cells slots : Nat} {x3 : Int32} (OK : en_OK) (WK : en_WK l) (C : lw_C p s m meth c b L xs cA D) (hrm : cells ≤ room_1.cells ∧ slots ≤ room_1.slots) (hin1 : vp_in (x3 + 1) L) (hin2 : vp_in (x3 + 2) L) (hin3 : vp_in (x3 + 3) L) (hin4 : vp_in (x3 + 4) L) (hin5 : vp_in (x3 + 5) L) (hl : lv_has ls 4 [(3, .int x3), (0, .ref b), (1, .ref (ad r_WA 0)), (2, .ref (ad r_Md 0))]) (hP : va_P D classes (en_W ad cA σ) H) (hD : va_D (fun q => s.heap.size ≤ q) (en_W ad cA σ)) (hS : va_S (fun q => s.heap.size ≤ q) s.heap H locs) (hX : iX σ) (kk : ∀ (σ2 : en_m) (H2 : Heap) (locs2 : List Loc), iX σ2 → va_P D classes (en_W ad cA σ2) H2 → va_S (fun q => s.heap.size ≤ q) s.heap H2 locs2 → W p l e room_1 s m #[Value.ref b] below meth c H2 locs2 cells slots Q (F0 m 1198 ls [])) : W p l e room_1 s m #[Value.ref b] below meth c H locs cells slots Q (F0 m 621 ls []) := by
  obtain ⟨nn, DD, pp, LW, hV⟩ := hX
  obtain ⟨⟨hx, hb, hr, hml, hown, hts, hXs, hbl, hlocks, hgv⟩, hK, hXx⟩ := id C
  have hbA : ¬ (fun q : Nat => s.heap.size ≤ q) b := Nat.not_le.mpr hbl
  obtain ⟨r1, σ1, E2, M1⟩ := en_meth OK WK (a := z_X11_alike) (by decide) (lok_2 mem_WA) (Nat.le_of_ble_eq_true rfl) (eq_alike hV (i32_of (xs (x3 + 1).toNatClampNeg)) (i32_of (xs (x3 + 2).toNatClampNeg)))
  obtain ⟨r2, σ2, ⟨⟨v, hv1, hv2⟩, hX2⟩, M2⟩ := en_meth OK WK (a := z_X12_alike) (by decide) (lok_2 mem_Md) (Nat.le_of_ble_eq_true rfl) E2
  subst hv1 hv2
  refine lv_aload_n hx hb d_law_621 rfl (lv_at hl 2 rfl) ?_
  refine lv_aload_n hx hb d_law_622 rfl (lv_at hl 1 rfl) ?_
  refine lv_iload_n hx hb d_law_623 rfl (lv_at hl 0 rfl) ?_
  refine lv_iconst (v := 1) hx hb d_law_624 (by decide) ?_
  refine lv_iadd hx hb d_law_625 ?_
  refine va_sld hx hb hXs hbl hbA hS hin1 d_law_626 ?_
  refine lv_aload_n hx hb d_law_627 rfl (lv_at hl 1 rfl) ?_
  refine lv_iload_n hx hb d_law_628 rfl (lv_at hl 0 rfl) ?_
  refine lv_iconst (v := 2) hx hb d_law_629 (by decide) ?_
  refine lv_iadd hx hb d_law_630 ?_
  refine va_sld hx hb hXs hbl hbA hS hin2 d_law_631 ?_
  refine lw_call OK (by decide) C hP hD hS hl.1 M1 mem_WA rfl rfl rfl rfl rfl lk1_alike ⟨Nat.le_of_ble_eq_true rfl, Nat.le_of_ble_eq_true rfl⟩ (Nat.le_of_ble_eq_true rfl) d_law_632 hrm lst_2 (fun H1 locs1 hP1 hS1 => ?_)
  refine lv_aload_n hx hb d_law_635 rfl (lv_at hl 3 rfl) ?_
  refine lv_aload_n hx hb d_law_636 rfl (lv_at hl 1 rfl) ?_
  refine lv_iload_n hx hb d_law_637 rfl (lv_at hl 0 rfl) ?_
  refine lv_iconst (v := 1) hx hb d_law_638 (by decide) ?_
  refine lv_iadd hx hb d_law_639 ?_
  refine va_sld hx hb hXs hbl hbA hS1 hin1 d_law_640 ?_
  refine lv_aload_n hx hb d_law_641 rfl (lv_at hl 1 rfl) ?_
  refine lv_iload_n hx hb d_law_642 rfl (lv_at hl 0 rfl) ?_
  refine lv_iconst (v := 2) hx hb d_law_643 (by decide) ?_
  refine lv_iadd hx hb d_law_644 ?_
  refine va_sld hx hb hXs hbl hbA hS1 hin2 d_law_645 ?_
  refine lw_call OK (by decide) C hP1 (lw_D hD) hS1 hl.1 M2 mem_Md rfl rfl rfl rfl rfl lk2_alike ⟨Nat.le_of_ble_eq_true rfl, Nat.le_of_ble_eq_true rfl⟩ (Nat.le_of_ble_eq_true rfl) d_law_646 hrm lst_2 (fun H2 locs2 hP2 hS2 => ?_)
  refine W.eq (g2 := F0 m 649 ls [.int (Int32.ofInt v), .int (Int32.ofInt v)]) rfl ?_
  exact lv_icmp_eq (tgt := 1198) hx hb d_law_649 (by decide) (fun _ => kk σ2 H2 locs2 hX2 hP2 hS2) (fun z => absurd rfl z)
theorem lw_c_size {p : Program} {l : Launch} {e : Env} {s : State} {m : MethodId} {b L : Nat} {xs : Nat → Int32} {below : List Frame} {meth : Method} {c : Code} {ad : Nat → Int → Nat} {cA : Nat → ClassId} {D : va_G} {ls : Array Slot} {H : Heap} {locs : List Loc} {σ : en_m} {Q : State → Prop} {cells slots : Nat} {x3 : Int32} (OK : en_OK) (WK : en_WK l) (C : lw_C p s m meth c b L xs cA D) (hrm : cells ≤ room_1.cells ∧ slots ≤ room_1.slots) (hin1 : vp_in (x3 + 1) L) (hin2 : vp_in (x3 + 2) L) (hin3 : vp_in (x3 + 3) L) (hin4 : vp_in (x3 + 4) L) (hin5 : vp_in (x3 + 5) L) (hl : lv_has ls 4 [(3, .int x3), (0, .ref b), (1, .ref (ad r_WA 0)), (2, .ref (ad r_Md 0))]) (hP : va_P D classes (en_W ad cA σ) H) (hD : va_D (fun q => s.heap.size ≤ q) (en_W ad cA σ)) (hS : va_S (fun q => s.heap.size ≤ q) s.heap H locs) (hX : iX σ) (kk : ∀ (σ2 : en_m) (H2 : Heap) (locs2 : List Loc), iX σ2 → va_P D classes (en_W ad cA σ2) H2 → va_S (fun q => s.heap.size ≤ q) s.heap H2 locs2 → W p l e room_1 s m #[Value.ref b] below meth c H2 locs2 cells slots Q (F0 m 1198 ls [])) : W p l e room_1 s m #[Value.ref b] below meth c H locs cells slots Q (F0 m 654 ls []) := by
  obtain ⟨nn, DD, pp, LW, hV⟩ := hX
  obtain ⟨⟨hx, hb, hr, hml, hown, hts, hXs, hbl, hlocks, hgv⟩, hK, hXx⟩ := id C
  have hbA : ¬ (fun q : Nat => s.heap.size ≤ q) b := Nat.not_le.mpr hbl
  obtain ⟨r1, σ1, E2, M1⟩ := en_meth OK WK (a := z_X11_size) (by decide) (lok_1 mem_WA) (Nat.le_of_ble_eq_true rfl) (eq_size hV (i32_of (xs (x3 + 1).toNatClampNeg)))
  obtain ⟨r2, σ2, ⟨⟨v, hv1, hv2⟩, hX2⟩, M2⟩ := en_meth OK WK (a := z_X12_size) (by decide) (lok_1 mem_Md) (Nat.le_of_ble_eq_true rfl) E2
  subst hv1 hv2
  refine lv_aload_n hx hb d_law_654 rfl (lv_at hl 2 rfl) ?_
  refine lv_aload_n hx hb d_law_655 rfl (lv_at hl 1 rfl) ?_
  refine lv_iload_n hx hb d_law_656 rfl (lv_at hl 0 rfl) ?_
  refine lv_iconst (v := 1) hx hb d_law_657 (by decide) ?_
  refine lv_iadd hx hb d_law_658 ?_
  refine va_sld hx hb hXs hbl hbA hS hin1 d_law_659 ?_
  refine lw_call OK (by decide) C hP hD hS hl.1 M1 mem_WA rfl rfl rfl rfl rfl lk1_size ⟨Nat.le_of_ble_eq_true rfl, Nat.le_of_ble_eq_true rfl⟩ (Nat.le_of_ble_eq_true rfl) d_law_660 hrm lst_1 (fun H1 locs1 hP1 hS1 => ?_)
  refine lv_aload_n hx hb d_law_663 rfl (lv_at hl 3 rfl) ?_
  refine lv_aload_n hx hb d_law_664 rfl (lv_at hl 1 rfl) ?_
  refine lv_iload_n hx hb d_law_665 rfl (lv_at hl 0 rfl) ?_
  refine lv_iconst (v := 1) hx hb d_law_666 (by decide) ?_
  refine lv_iadd hx hb d_law_667 ?_
  refine va_sld hx hb hXs hbl hbA hS1 hin1 d_law_668 ?_
  refine lw_call OK (by decide) C hP1 (lw_D hD) hS1 hl.1 M2 mem_Md rfl rfl rfl rfl rfl lk2_size ⟨Nat.le_of_ble_eq_true rfl, Nat.le_of_ble_eq_true rfl⟩ (Nat.le_of_ble_eq_true rfl) d_law_669 hrm lst_1 (fun H2 locs2 hP2 hS2 => ?_)
  refine W.eq (g2 := F0 m 672 ls [.int (Int32.ofInt v), .int (Int32.ofInt v)]) rfl ?_
  exact lv_icmp_eq (tgt := 1198) hx hb d_law_672 (by decide) (fun _ => kk σ2 H2 locs2 hX2 hP2 hS2) (fun z => absurd rfl z)
theorem lw_c_normal {p : Program} {l : Launch} {e : Env} {s : State} {m : MethodId} {b L : Nat} {xs : Nat → Int32} {below : List Frame} {meth : Method} {c : Code} {ad : Nat → Int → Nat} {cA : Nat → ClassId} {D : va_G} {ls : Array Slot} {H : Heap} {locs : List Loc} {σ : en_m} {Q : State → Prop} {cells slots : Nat} {x3 : Int32} (OK : en_OK) (WK : en_WK l) (C : lw_C p s m meth c b L xs cA D) (hrm : cells ≤ room_1.cells ∧ slots ≤ room_1.slots) (hin1 : vp_in (x3 + 1) L) (hin2 : vp_in (x3 + 2) L) (hin3 : vp_in (x3 + 3) L) (hin4 : vp_in (x3 + 4) L) (hin5 : vp_in (x3 + 5) L) (hl : lv_has ls 4 [(3, .int x3), (0, .ref b), (1, .ref (ad r_WA 0)), (2, .ref (ad r_Md 0))]) (hP : va_P D classes (en_W ad cA σ) H) (hD : va_D (fun q => s.heap.size ≤ q) (en_W ad cA σ)) (hS : va_S (fun q => s.heap.size ≤ q) s.heap H locs) (hX : iX σ) (kk : ∀ (σ2 : en_m) (H2 : Heap) (locs2 : List Loc), iX σ2 → va_P D classes (en_W ad cA σ2) H2 → va_S (fun q => s.heap.size ≤ q) s.heap H2 locs2 → W p l e room_1 s m #[Value.ref b] below meth c H2 locs2 cells slots Q (F0 m 1198 ls [])) : W p l e room_1 s m #[Value.ref b] below meth c H locs cells slots Q (F0 m 677 ls []) := by
  obtain ⟨nn, DD, pp, LW, hV⟩ := hX
  obtain ⟨⟨hx, hb, hr, hml, hown, hts, hXs, hbl, hlocks, hgv⟩, hK, hXx⟩ := id C
  have hbA : ¬ (fun q : Nat => s.heap.size ≤ q) b := Nat.not_le.mpr hbl
  obtain ⟨r1, σ1, E2, M1⟩ := en_meth OK WK (a := z_X11_normal) (by decide) (lok_2 mem_WA) (Nat.le_of_ble_eq_true rfl) (eq_normal hV (i32_of (xs (x3 + 1).toNatClampNeg)) (i32_of (xs (x3 + 2).toNatClampNeg)))
  obtain ⟨r2, σ2, ⟨⟨v, hv1, hv2⟩, hX2⟩, M2⟩ := en_meth OK WK (a := z_X12_normal) (by decide) (lok_2 mem_Md) (Nat.le_of_ble_eq_true rfl) E2
  subst hv1 hv2
  refine lv_aload_n hx hb d_law_677 rfl (lv_at hl 2 rfl) ?_
  refine lv_aload_n hx hb d_law_678 rfl (lv_at hl 1 rfl) ?_
  refine lv_iload_n hx hb d_law_679 rfl (lv_at hl 0 rfl) ?_
  refine lv_iconst (v := 1) hx hb d_law_680 (by decide) ?_
  refine lv_iadd hx hb d_law_681 ?_
  refine va_sld hx hb hXs hbl hbA hS hin1 d_law_682 ?_
  refine lv_aload_n hx hb d_law_683 rfl (lv_at hl 1 rfl) ?_
  refine lv_iload_n hx hb d_law_684 rfl (lv_at hl 0 rfl) ?_
  refine lv_iconst (v := 2) hx hb d_law_685 (by decide) ?_
  refine lv_iadd hx hb d_law_686 ?_
  refine va_sld hx hb hXs hbl hbA hS hin2 d_law_687 ?_
  refine lw_call OK (by decide) C hP hD hS hl.1 M1 mem_WA rfl rfl rfl rfl rfl lk1_normal ⟨Nat.le_of_ble_eq_true rfl, Nat.le_of_ble_eq_true rfl⟩ (Nat.le_of_ble_eq_true rfl) d_law_688 hrm lst_2 (fun H1 locs1 hP1 hS1 => ?_)
  refine lv_aload_n hx hb d_law_691 rfl (lv_at hl 3 rfl) ?_
  refine lv_aload_n hx hb d_law_692 rfl (lv_at hl 1 rfl) ?_
  refine lv_iload_n hx hb d_law_693 rfl (lv_at hl 0 rfl) ?_
  refine lv_iconst (v := 1) hx hb d_law_694 (by decide) ?_
  refine lv_iadd hx hb d_law_695 ?_
  refine va_sld hx hb hXs hbl hbA hS1 hin1 d_law_696 ?_
  refine lv_aload_n hx hb d_law_697 rfl (lv_at hl 1 rfl) ?_
  refine lv_iload_n hx hb d_law_698 rfl (lv_at hl 0 rfl) ?_
  refine lv_iconst (v := 2) hx hb d_law_699 (by decide) ?_
  refine lv_iadd hx hb d_law_700 ?_
  refine va_sld hx hb hXs hbl hbA hS1 hin2 d_law_701 ?_
  refine lw_call OK (by decide) C hP1 (lw_D hD) hS1 hl.1 M2 mem_Md rfl rfl rfl rfl rfl lk2_normal ⟨Nat.le_of_ble_eq_true rfl, Nat.le_of_ble_eq_true rfl⟩ (Nat.le_of_ble_eq_true rfl) d_law_702 hrm lst_2 (fun H2 locs2 hP2 hS2 => ?_)
  refine W.eq (g2 := F0 m 705 ls [.int (Int32.ofInt v), .int (Int32.ofInt v)]) rfl ?_
  exact lv_icmp_eq (tgt := 1198) hx hb d_law_705 (by decide) (fun _ => kk σ2 H2 locs2 hX2 hP2 hS2) (fun z => absurd rfl z)
theorem lw_c_form {p : Program} {l : Launch} {e : Env} {s : State} {m : MethodId} {b L : Nat} {xs : Nat → Int32} {below : List Frame} {meth : Method} {c : Code} {ad : Nat → Int → Nat} {cA : Nat → ClassId} {D : va_G} {ls : Array Slot} {H : Heap} {locs : List Loc} {σ : en_m} {Q : State → Prop} {cells slots : Nat} {x3 : Int32} (OK : en_OK) (WK : en_WK l) (C : lw_C p s m meth c b L xs cA D) (hrm : cells ≤ room_1.cells ∧ slots ≤ room_1.slots) (hin1 : vp_in (x3 + 1) L) (hin2 : vp_in (x3 + 2) L) (hin3 : vp_in (x3 + 3) L) (hin4 : vp_in (x3 + 4) L) (hin5 : vp_in (x3 + 5) L) (hl : lv_has ls 4 [(3, .int x3), (0, .ref b), (1, .ref (ad r_WA 0)), (2, .ref (ad r_Md 0))]) (hP : va_P D classes (en_W ad cA σ) H) (hD : va_D (fun q => s.heap.size ≤ q) (en_W ad cA σ)) (hS : va_S (fun q => s.heap.size ≤ q) s.heap H locs) (hX : iX σ) (kk : ∀ (σ2 : en_m) (H2 : Heap) (locs2 : List Loc), iX σ2 → va_P D classes (en_W ad cA σ2) H2 → va_S (fun q => s.heap.size ≤ q) s.heap H2 locs2 → W p l e room_1 s m #[Value.ref b] below meth c H2 locs2 cells slots Q (F0 m 1198 ls [])) : W p l e room_1 s m #[Value.ref b] below meth c H locs cells slots Q (F0 m 710 ls []) := by
  obtain ⟨nn, DD, pp, LW, hV⟩ := hX
  obtain ⟨⟨hx, hb, hr, hml, hown, hts, hXs, hbl, hlocks, hgv⟩, hK, hXx⟩ := id C
  have hbA : ¬ (fun q : Nat => s.heap.size ≤ q) b := Nat.not_le.mpr hbl
  obtain ⟨r1, σ1, E2, M1⟩ := en_meth OK WK (a := z_X11_form) (by decide) (lok_2 mem_WA) (Nat.le_of_ble_eq_true rfl) (eq_form hV (i32_of (xs (x3 + 1).toNatClampNeg)) (i32_of (xs (x3 + 2).toNatClampNeg)))
  obtain ⟨r2, σ2, ⟨⟨v, hv1, hv2⟩, hX2⟩, M2⟩ := en_meth OK WK (a := z_X12_form) (by decide) (lok_2 mem_Md) (Nat.le_of_ble_eq_true rfl) E2
  subst hv1 hv2
  refine lv_aload_n hx hb d_law_710 rfl (lv_at hl 2 rfl) ?_
  refine lv_aload_n hx hb d_law_711 rfl (lv_at hl 1 rfl) ?_
  refine lv_iload_n hx hb d_law_712 rfl (lv_at hl 0 rfl) ?_
  refine lv_iconst (v := 1) hx hb d_law_713 (by decide) ?_
  refine lv_iadd hx hb d_law_714 ?_
  refine va_sld hx hb hXs hbl hbA hS hin1 d_law_715 ?_
  refine lv_aload_n hx hb d_law_716 rfl (lv_at hl 1 rfl) ?_
  refine lv_iload_n hx hb d_law_717 rfl (lv_at hl 0 rfl) ?_
  refine lv_iconst (v := 2) hx hb d_law_718 (by decide) ?_
  refine lv_iadd hx hb d_law_719 ?_
  refine va_sld hx hb hXs hbl hbA hS hin2 d_law_720 ?_
  refine lw_call OK (by decide) C hP hD hS hl.1 M1 mem_WA rfl rfl rfl rfl rfl lk1_form ⟨Nat.le_of_ble_eq_true rfl, Nat.le_of_ble_eq_true rfl⟩ (Nat.le_of_ble_eq_true rfl) d_law_721 hrm lst_2 (fun H1 locs1 hP1 hS1 => ?_)
  refine lv_aload_n hx hb d_law_724 rfl (lv_at hl 3 rfl) ?_
  refine lv_aload_n hx hb d_law_725 rfl (lv_at hl 1 rfl) ?_
  refine lv_iload_n hx hb d_law_726 rfl (lv_at hl 0 rfl) ?_
  refine lv_iconst (v := 1) hx hb d_law_727 (by decide) ?_
  refine lv_iadd hx hb d_law_728 ?_
  refine va_sld hx hb hXs hbl hbA hS1 hin1 d_law_729 ?_
  refine lv_aload_n hx hb d_law_730 rfl (lv_at hl 1 rfl) ?_
  refine lv_iload_n hx hb d_law_731 rfl (lv_at hl 0 rfl) ?_
  refine lv_iconst (v := 2) hx hb d_law_732 (by decide) ?_
  refine lv_iadd hx hb d_law_733 ?_
  refine va_sld hx hb hXs hbl hbA hS1 hin2 d_law_734 ?_
  refine lw_call OK (by decide) C hP1 (lw_D hD) hS1 hl.1 M2 mem_Md rfl rfl rfl rfl rfl lk2_form ⟨Nat.le_of_ble_eq_true rfl, Nat.le_of_ble_eq_true rfl⟩ (Nat.le_of_ble_eq_true rfl) d_law_735 hrm lst_2 (fun H2 locs2 hP2 hS2 => ?_)
  refine W.eq (g2 := F0 m 738 ls [.int (Int32.ofInt v), .int (Int32.ofInt v)]) rfl ?_
  exact lv_icmp_eq (tgt := 1198) hx hb d_law_738 (by decide) (fun _ => kk σ2 H2 locs2 hX2 hP2 hS2) (fun z => absurd rfl z)
theorem lw_c_table {p : Program} {l : Launch} {e : Env} {s : State} {m : MethodId} {b L : Nat} {xs : Nat → Int32} {below : List Frame} {meth : Method} {c : Code} {ad : Nat → Int → Nat} {cA : Nat → ClassId} {D : va_G} {ls : Array Slot} {H : Heap} {locs : List Loc} {σ : en_m} {Q : State → Prop} {cells slots : Nat} {x3 : Int32} (OK : en_OK) (WK : en_WK l) (C : lw_C p s m meth c b L xs cA D) (hrm : cells ≤ room_1.cells ∧ slots ≤ room_1.slots) (hin1 : vp_in (x3 + 1) L) (hin2 : vp_in (x3 + 2) L) (hin3 : vp_in (x3 + 3) L) (hin4 : vp_in (x3 + 4) L) (hin5 : vp_in (x3 + 5) L) (hl : lv_has ls 4 [(3, .int x3), (0, .ref b), (1, .ref (ad r_WA 0)), (2, .ref (ad r_Md 0))]) (hP : va_P D classes (en_W ad cA σ) H) (hD : va_D (fun q => s.heap.size ≤ q) (en_W ad cA σ)) (hS : va_S (fun q => s.heap.size ≤ q) s.heap H locs) (hX : iX σ) (kk : ∀ (σ2 : en_m) (H2 : Heap) (locs2 : List Loc), iX σ2 → va_P D classes (en_W ad cA σ2) H2 → va_S (fun q => s.heap.size ≤ q) s.heap H2 locs2 → W p l e room_1 s m #[Value.ref b] below meth c H2 locs2 cells slots Q (F0 m 1198 ls [])) : W p l e room_1 s m #[Value.ref b] below meth c H locs cells slots Q (F0 m 743 ls []) := by
  obtain ⟨nn, DD, pp, LW, hV⟩ := hX
  obtain ⟨⟨hx, hb, hr, hml, hown, hts, hXs, hbl, hlocks, hgv⟩, hK, hXx⟩ := id C
  have hbA : ¬ (fun q : Nat => s.heap.size ≤ q) b := Nat.not_le.mpr hbl
  obtain ⟨r1, σ1, E2, M1⟩ := en_meth OK WK (a := z_X11_table) (by decide) (lok_3 mem_WA) (Nat.le_of_ble_eq_true rfl) (eq_table hV (i32_of (xs (x3 + 1).toNatClampNeg)) (i32_of (xs (x3 + 2).toNatClampNeg)) (i32_of (xs (x3 + 3).toNatClampNeg)))
  obtain ⟨r2, σ2, ⟨⟨v, hv1, hv2⟩, hX2⟩, M2⟩ := en_meth OK WK (a := z_X12_table) (by decide) (lok_3 mem_Md) (Nat.le_of_ble_eq_true rfl) E2
  subst hv1 hv2
  refine lv_aload_n hx hb d_law_743 rfl (lv_at hl 2 rfl) ?_
  refine lv_aload_n hx hb d_law_744 rfl (lv_at hl 1 rfl) ?_
  refine lv_iload_n hx hb d_law_745 rfl (lv_at hl 0 rfl) ?_
  refine lv_iconst (v := 1) hx hb d_law_746 (by decide) ?_
  refine lv_iadd hx hb d_law_747 ?_
  refine va_sld hx hb hXs hbl hbA hS hin1 d_law_748 ?_
  refine lv_aload_n hx hb d_law_749 rfl (lv_at hl 1 rfl) ?_
  refine lv_iload_n hx hb d_law_750 rfl (lv_at hl 0 rfl) ?_
  refine lv_iconst (v := 2) hx hb d_law_751 (by decide) ?_
  refine lv_iadd hx hb d_law_752 ?_
  refine va_sld hx hb hXs hbl hbA hS hin2 d_law_753 ?_
  refine lv_aload_n hx hb d_law_754 rfl (lv_at hl 1 rfl) ?_
  refine lv_iload_n hx hb d_law_755 rfl (lv_at hl 0 rfl) ?_
  refine lv_iconst (v := 3) hx hb d_law_756 (by decide) ?_
  refine lv_iadd hx hb d_law_757 ?_
  refine va_sld hx hb hXs hbl hbA hS hin3 d_law_758 ?_
  refine lw_call OK (by decide) C hP hD hS hl.1 M1 mem_WA rfl rfl rfl rfl rfl lk1_table ⟨Nat.le_of_ble_eq_true rfl, Nat.le_of_ble_eq_true rfl⟩ (Nat.le_of_ble_eq_true rfl) d_law_759 hrm lst_3 (fun H1 locs1 hP1 hS1 => ?_)
  refine lv_aload_n hx hb d_law_762 rfl (lv_at hl 3 rfl) ?_
  refine lv_aload_n hx hb d_law_763 rfl (lv_at hl 1 rfl) ?_
  refine lv_iload_n hx hb d_law_764 rfl (lv_at hl 0 rfl) ?_
  refine lv_iconst (v := 1) hx hb d_law_765 (by decide) ?_
  refine lv_iadd hx hb d_law_766 ?_
  refine va_sld hx hb hXs hbl hbA hS1 hin1 d_law_767 ?_
  refine lv_aload_n hx hb d_law_768 rfl (lv_at hl 1 rfl) ?_
  refine lv_iload_n hx hb d_law_769 rfl (lv_at hl 0 rfl) ?_
  refine lv_iconst (v := 2) hx hb d_law_770 (by decide) ?_
  refine lv_iadd hx hb d_law_771 ?_
  refine va_sld hx hb hXs hbl hbA hS1 hin2 d_law_772 ?_
  refine lv_aload_n hx hb d_law_773 rfl (lv_at hl 1 rfl) ?_
  refine lv_iload_n hx hb d_law_774 rfl (lv_at hl 0 rfl) ?_
  refine lv_iconst (v := 3) hx hb d_law_775 (by decide) ?_
  refine lv_iadd hx hb d_law_776 ?_
  refine va_sld hx hb hXs hbl hbA hS1 hin3 d_law_777 ?_
  refine lw_call OK (by decide) C hP1 (lw_D hD) hS1 hl.1 M2 mem_Md rfl rfl rfl rfl rfl lk2_table ⟨Nat.le_of_ble_eq_true rfl, Nat.le_of_ble_eq_true rfl⟩ (Nat.le_of_ble_eq_true rfl) d_law_778 hrm lst_3 (fun H2 locs2 hP2 hS2 => ?_)
  refine W.eq (g2 := F0 m 781 ls [.int (Int32.ofInt v), .int (Int32.ofInt v)]) rfl ?_
  exact lv_icmp_eq (tgt := 1198) hx hb d_law_781 (by decide) (fun _ => kk σ2 H2 locs2 hX2 hP2 hS2) (fun z => absurd rfl z)
