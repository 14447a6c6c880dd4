/-! a call in the law -/
theorem lw_D {ad : Nat → Int → Nat} {cA : Nat → ClassId} {σ σ' : en_m} {B : Nat → Prop} (h : va_D B (en_W ad cA σ)) : va_D B (en_W ad cA σ') := by
  have key : ∀ (τ : en_m) (i : Nat) (q : Nat × va_E), (en_W ad cA τ)[i]? = some q → ∃ p : Nat × Int, en_C[i]? = some p ∧ q.1 = ad p.1 p.2 := by
    intro τ i q hi
    unfold en_W at hi
    rw [List.getElem?_map] at hi
    cases hp : en_C[i]? with
    | none => rw [hp] at hi; cases hi
    | some p => rw [hp] at hi; cases hi; exact ⟨p, rfl, rfl⟩
  have at' : ∀ (τ : en_m) (i : Nat) (p : Nat × Int), en_C[i]? = some p → (en_W ad cA τ)[i]? = some (ad p.1 p.2, en_en ad cA τ p) := by
    intro τ i p hp
    unfold en_W
    rw [List.getElem?_map, hp]
    rfl
  refine ⟨fun i j p q hi hj e => ?_, fun i q hi => ?_⟩
  · obtain ⟨p1, g1, g2⟩ := key _ i p hi
    obtain ⟨p2, g3, g4⟩ := key _ j q hj
    exact h.1 i j _ _ (at' σ i p1 g1) (at' σ j p2 g3) (g2.symm.trans (e.trans g4))
  · obtain ⟨p1, g1, g2⟩ := key _ i q hi
    have e := h.2 i _ (at' σ i p1 g1)
    rw [g2]
    exact e
def lw_C (p : Program) (s : State) (m : MethodId) (meth : Method) (c : Code) (b L : Nat) (xs : Nat → Int32) (cA : Nat → ClassId) (D : va_G) : Prop := lw_At p s m meth c b L xs ∧ va_K D classes (en_tys cA) s ∧ en_X (fun q => s.heap.size ≤ q) s s.heap
theorem lw_call {p : Program} {l : Launch} {e : Env} {s : State} {m : MethodId} {b L : Nat} {xs : Nat → Int32} {below : List Frame} {meth : Method} {c : Code} {ad : Nat → Int → Nat} {cA : Nat → ClassId} {D : va_G} {ls : Array Slot} {H : Heap} {locs : List Loc} {σ σ1 : en_m} {v : Option en_v} {Q : State → Prop} {cells slots a idx pc k ci : Nat} {fs : List (Nat × Nat × Nat)} {q : vw_C} {as' : List en_v} {rest st0 : List Value}
    (OK : en_OK) (ha : a < 332) (C : lw_C p s m meth c b L xs cA D) (hP : va_P D classes (en_W ad cA σ) H) (hD : va_D (fun q => s.heap.size ≤ q) (en_W ad cA σ)) (hS : va_S (fun q => s.heap.size ≤ q) s.heap H locs) (hls : ls.size = 4)
    (hM : ∀ (ad : Nat → Int → Nat) (cA : Nat → ClassId) (D : va_G) (sz : Nat), Met l (en_y a) (en_ws a) (en_rm a) (en_Pc ad cA D (.inr (.inr (k, 0)) :: as') σ sz) (en_Qc ad cA D v σ1 sz) 0 0 (en_A ad sz))
    (hmem : (k, (0 : Int)) ∈ en_C) (hk : en_K k = .inl (ci, fs)) (hc : classes[ci]? = some q) (hq : q.1 = (en_y a).cls) (hst : en_is a = false) (hlen : as'.length = en_na a - 1) (hlink : Cond.methodLink R_law idx (en_y a) ∈ lw_tbl) (hroom : en_fr a + 1 ≤ room_1.frames ∧ 8 + (en_mL a + 11) + en_lo a ≤ room_1.locals) (hcat : (rest.map fun v => v.category).sum ≤ 8) (hd : decode code pc = .ok (.invokevirtual idx, 3)) (hrm : cells ≤ room_1.cells ∧ slots ≤ room_1.slots) (hstk : st0 = (as'.map (en_rv ad)).reverse ++ .ref (ad k 0) :: rest)
    (kk : ∀ (H1 : Heap) (locs1 : List Loc), va_P D classes (en_W ad cA σ1) H1 → va_S (fun q => s.heap.size ≤ q) s.heap H1 locs1 → W p l e room_1 s m #[Value.ref b] below meth c H1 locs1 cells slots Q (F0 m (pc + 3) ls ((v.map (en_rv ad)).toList ++ rest))) : W p l e room_1 s m #[Value.ref b] below meth c H locs cells slots Q (F0 m pc ls st0) := by
  obtain ⟨⟨hx, hb, hr, hml, hown, hts, hXs, hbl, hlocks, hgv⟩, hK, hX⟩ := C
  have hts2 : ∀ w ∈ en_tb, w.before #[Value.ref b] s = true := fun w hw => hts w (List.mem_filter.mp hw).1
  obtain ⟨⟨w1, w2⟩, w3, -, wS, wV⟩ := en_mchk_of OK ha
  have hXH : en_X (en_A ad H.size) s H := en_X_narrow (en_X_kept hX (fun q h1 h2 => hS.2.1 q h1 h2)) (fun q hq => by
    rcases hq with ⟨k2, b2, h1, h2⟩ | hq
    · obtain ⟨q0, -, g⟩ := en_W_at (ad := ad) (cA := cA) (σ := σ) h1
      have := hD.2 q0 _ g
      rw [h2]
      exact this
    · exact Nat.le_trans hS.1 hq)
  have hpre : ∀ U : State, U.heap = H → s.WarmedH U.vm → en_Pc ad cA D (.inr (.inr (k, 0)) :: as') σ H.size (((.inr (.inr (k, 0)) :: as') : List en_v).map (en_rv ad)).toArray U := fun U hU hW => ⟨rfl, by rw [hU], by rw [hU]; exact hP, va_K.moved hW.alike hK, hD.weaken (fun _ _ _ _ => trivial), by rw [hU]; exact en_X_warm hW hXH⟩
  have hAA : ∀ q, en_A ad H.size q → s.heap.size ≤ q := fun q hq => by
    rcases hq with ⟨k2, b2, h1, h2⟩ | hq
    · obtain ⟨q0, -, g⟩ := en_W_at (ad := ad) (cA := cA) (σ := σ) h1
      have := hD.2 q0 _ g
      rw [h2]
      exact this
    · exact Nat.le_trans hS.1 hq
  have hfix : CallFix p m c code 4 s #[Value.ref b] en_tb R_law := ⟨hx, hb, hml, hown, hts2⟩
  have hini : (Cond.initialized (en_y a).cls).before #[Value.ref b] s = true := hts2 _ w2
  have hlk : (Cond.methodLink R_law idx (en_y a)).before #[Value.ref b] s = true := hts _ hlink
  obtain ⟨v1, v2, v3, v4⟩ := wV hst
  have cw : CallW room_1 s #[Value.ref b] R_law (en_y a).cls idx (en_y a) (en_B a) (en_mL a) (en_rt a) (en_ws a) (en_rm a) 0 0 (en_na a - 1) := ⟨callB_of (en_na a - 1) hts2 (en_good OK ha) rfl rfl rfl hini hlk ⟨w3.1, w3.2, v4⟩ hroom, hts2 _ v1, hts2 _ v2⟩
  have hlen2 : (as'.map (en_rv ad)).length = en_na a - 1 := by rw [List.length_map]; exact hlen
  obtain ⟨q0, -, hw0⟩ := en_W_at (ad := ad) (cA := cA) (σ := σ) hmem
  have hen : en_en ad cA σ (k, 0) = .inr (ci, fs.map (en_fv ad σ)) := by unfold en_en; dsimp only; rw [hk]
  rw [hen] at hw0
  have hrcv := va_recv hK hP (ci := ci) (q0 := q0) hc hw0
  rw [hq] at hrcv
  exact en_callW (va_runV hfix (hM ad cA D H.size) cw ⟨en_fb ad cA D _ σ H.size, hrcv, hpre⟩ rfl hlen2 hls hstk (lv_room hcat) hd hrm) hS (fun q _ h => hAA q h) hAA kk
theorem ok_as {q : Nat × Int} (h : q ∈ en_C) {as' : List en_v} (g : ∀ v ∈ as', ∃ z : Int, v = .inl z) : ∀ v ∈ (.inr (.inr q) :: as' : List en_v), en_ok v := List.forall_mem_cons.mpr ⟨h, fun v hv => by
  obtain ⟨z, rfl⟩ := g v hv
  trivial⟩
theorem i32_of (x : Int32) : i32 x.toInt := ⟨by have := Int32.le_toInt x; omega, by have := Int32.toInt_lt x; omega⟩
theorem rv_i (ad : Nat → Int → Nat) (x : Int32) : en_rv ad (.inl x.toInt) = .int x := by
  show Value.int (Int32.ofInt x.toInt) = _
  rw [Int32.ofInt_toInt]
theorem lst_0 {ad : Nat → Int → Nat} {r : List Value} : (r : List Value) = (([] : List en_v).map (en_rv ad)).reverse ++ r := by
  rfl
theorem lok_0 {q : Nat × Int} (h : q ∈ en_C) : ∀ v ∈ (.inr (.inr q) :: [] : List en_v), en_ok v := List.forall_mem_cons.mpr ⟨h, fun _ h => absurd h List.not_mem_nil⟩
theorem lst_1 {ad : Nat → Int → Nat} {y1 : Int32} {r : List Value} : (.int y1 :: r : List Value) = (([.inl y1.toInt] : List en_v).map (en_rv ad)).reverse ++ r := by
  show _ = en_rv ad (.inl y1.toInt) :: r
  rw [rv_i]
theorem lok_1 {q : Nat × Int} (h : q ∈ en_C) {y1 : Int} : ∀ v ∈ (.inr (.inr q) :: .inl y1 :: [] : List en_v), en_ok v := List.forall_mem_cons.mpr ⟨h, List.forall_mem_cons.mpr ⟨trivial, fun _ h => absurd h List.not_mem_nil⟩⟩
theorem lst_2 {ad : Nat → Int → Nat} {y1 y2 : Int32} {r : List Value} : (.int y2 :: .int y1 :: r : List Value) = (([.inl y1.toInt, .inl y2.toInt] : List en_v).map (en_rv ad)).reverse ++ r := by
  show _ = en_rv ad (.inl y2.toInt) :: en_rv ad (.inl y1.toInt) :: r
  rw [rv_i, rv_i]
theorem lok_2 {q : Nat × Int} (h : q ∈ en_C) {y1 y2 : Int} : ∀ v ∈ (.inr (.inr q) :: .inl y1 :: .inl y2 :: [] : List en_v), en_ok v := List.forall_mem_cons.mpr ⟨h, List.forall_mem_cons.mpr ⟨trivial, List.forall_mem_cons.mpr ⟨trivial, fun _ h => absurd h List.not_mem_nil⟩⟩⟩
theorem lst_3 {ad : Nat → Int → Nat} {y1 y2 y3 : Int32} {r : List Value} : (.int y3 :: .int y2 :: .int y1 :: r : List Value) = (([.inl y1.toInt, .inl y2.toInt, .inl y3.toInt] : List en_v).map (en_rv ad)).reverse ++ r := by
  show _ = en_rv ad (.inl y3.toInt) :: en_rv ad (.inl y2.toInt) :: en_rv ad (.inl y1.toInt) :: r
  rw [rv_i, rv_i, rv_i]
theorem lok_3 {q : Nat × Int} (h : q ∈ en_C) {y1 y2 y3 : Int} : ∀ v ∈ (.inr (.inr q) :: .inl y1 :: .inl y2 :: .inl y3 :: [] : List en_v), en_ok v := List.forall_mem_cons.mpr ⟨h, List.forall_mem_cons.mpr ⟨trivial, List.forall_mem_cons.mpr ⟨trivial, List.forall_mem_cons.mpr ⟨trivial, fun _ h => absurd h List.not_mem_nil⟩⟩⟩⟩
theorem lst_4 {ad : Nat → Int → Nat} {y1 y2 y3 y4 : Int32} {r : List Value} : (.int y4 :: .int y3 :: .int y2 :: .int y1 :: r : List Value) = (([.inl y1.toInt, .inl y2.toInt, .inl y3.toInt, .inl y4.toInt] : List en_v).map (en_rv ad)).reverse ++ r := by
  show _ = en_rv ad (.inl y4.toInt) :: en_rv ad (.inl y3.toInt) :: en_rv ad (.inl y2.toInt) :: en_rv ad (.inl y1.toInt) :: r
  rw [rv_i, rv_i, rv_i, rv_i]
theorem lok_4 {q : Nat × Int} (h : q ∈ en_C) {y1 y2 y3 y4 : Int} : ∀ v ∈ (.inr (.inr q) :: .inl y1 :: .inl y2 :: .inl y3 :: .inl y4 :: [] : List en_v), en_ok v := List.forall_mem_cons.mpr ⟨h, List.forall_mem_cons.mpr ⟨trivial, List.forall_mem_cons.mpr ⟨trivial, List.forall_mem_cons.mpr ⟨trivial, List.forall_mem_cons.mpr ⟨trivial, fun _ h => absurd h List.not_mem_nil⟩⟩⟩⟩⟩
theorem lst_5 {ad : Nat → Int → Nat} {y1 y2 y3 y4 y5 : Int32} {r : List Value} : (.int y5 :: .int y4 :: .int y3 :: .int y2 :: .int y1 :: r : List Value) = (([.inl y1.toInt, .inl y2.toInt, .inl y3.toInt, .inl y4.toInt, .inl y5.toInt] : List en_v).map (en_rv ad)).reverse ++ r := by
  show _ = en_rv ad (.inl y5.toInt) :: en_rv ad (.inl y4.toInt) :: en_rv ad (.inl y3.toInt) :: en_rv ad (.inl y2.toInt) :: en_rv ad (.inl y1.toInt) :: r
  rw [rv_i, rv_i, rv_i, rv_i, rv_i]
theorem lok_5 {q : Nat × Int} (h : q ∈ en_C) {y1 y2 y3 y4 y5 : Int} : ∀ v ∈ (.inr (.inr q) :: .inl y1 :: .inl y2 :: .inl y3 :: .inl y4 :: .inl y5 :: [] : List en_v), en_ok v := List.forall_mem_cons.mpr ⟨h, List.forall_mem_cons.mpr ⟨trivial, List.forall_mem_cons.mpr ⟨trivial, List.forall_mem_cons.mpr ⟨trivial, List.forall_mem_cons.mpr ⟨trivial, List.forall_mem_cons.mpr ⟨trivial, fun _ h => absurd h List.not_mem_nil⟩⟩⟩⟩⟩⟩
theorem mem_WA : ((r_WA, 0) : Nat × Int) ∈ en_C := by decide
theorem mem_Md : ((r_Md, 0) : Nat × Int) ∈ en_C := by decide
theorem lk1_feed : Cond.methodLink R_law 13 (en_y z_X11_feed) ∈ lw_tbl := List.mem_of_getElem? (i := 624) (by decide +kernel)
theorem lk2_feed : Cond.methodLink R_law 17 (en_y z_X12_feed) ∈ lw_tbl := List.mem_of_getElem? (i := 1918) (by decide +kernel)
theorem lk1_back : Cond.methodLink R_law 18 (en_y z_X11_back) ∈ lw_tbl := List.mem_of_getElem? (i := 640) (by decide +kernel)
theorem lk2_back : Cond.methodLink R_law 22 (en_y z_X12_back) ∈ lw_tbl := List.mem_of_getElem? (i := 1926) (by decide +kernel)
theorem lk1_read : Cond.methodLink R_law 23 (en_y z_X11_read) ∈ lw_tbl := List.mem_of_getElem? (i := 648) (by decide +kernel)
theorem lk2_read : Cond.methodLink R_law 27 (en_y z_X12_read) ∈ lw_tbl := List.mem_of_getElem? (i := 1930) (by decide +kernel)
theorem lk1_element : Cond.methodLink R_law 28 (en_y z_X11_element) ∈ lw_tbl := List.mem_of_getElem? (i := 1023) (by decide +kernel)
theorem lk2_element : Cond.methodLink R_law 31 (en_y z_X12_element) ∈ lw_tbl := List.mem_of_getElem? (i := 2046) (by decide +kernel)
theorem lk1_place : Cond.methodLink R_law 32 (en_y z_X11_place) ∈ lw_tbl := List.mem_of_getElem? (i := 1045) (by decide +kernel)
theorem lk2_place : Cond.methodLink R_law 35 (en_y z_X12_place) ∈ lw_tbl := List.mem_of_getElem? (i := 2042) (by decide +kernel)
theorem lk1_counts : Cond.methodLink R_law 36 (en_y z_X11_counts) ∈ lw_tbl := List.mem_of_getElem? (i := 1049) (by decide +kernel)
theorem lk2_counts : Cond.methodLink R_law 40 (en_y z_X12_counts) ∈ lw_tbl := List.mem_of_getElem? (i := 2056) (by decide +kernel)
theorem lk1_words : Cond.methodLink R_law 41 (en_y z_X11_words) ∈ lw_tbl := List.mem_of_getElem? (i := 1063) (by decide +kernel)
theorem lk2_words : Cond.methodLink R_law 44 (en_y z_X12_words) ∈ lw_tbl := List.mem_of_getElem? (i := 2068) (by decide +kernel)
theorem lk1_put : Cond.methodLink R_law 45 (en_y z_X11_put) ∈ lw_tbl := List.mem_of_getElem? (i := 1085) (by decide +kernel)
theorem lk2_put : Cond.methodLink R_law 49 (en_y z_X12_put_) ∈ lw_tbl := List.mem_of_getElem? (i := 2084) (by decide +kernel)
theorem lk1_add : Cond.methodLink R_law 50 (en_y z_X11_add) ∈ lw_tbl := List.mem_of_getElem? (i := 1094) (by decide +kernel)
theorem lk2_add : Cond.methodLink R_law 54 (en_y z_X12_add) ∈ lw_tbl := List.mem_of_getElem? (i := 2088) (by decide +kernel)
theorem lk1_multiply : Cond.methodLink R_law 55 (en_y z_X11_multiply) ∈ lw_tbl := List.mem_of_getElem? (i := 1102) (by decide +kernel)
theorem lk2_multiply : Cond.methodLink R_law 59 (en_y z_X12_multiply) ∈ lw_tbl := List.mem_of_getElem? (i := 2092) (by decide +kernel)
theorem lk1_commute : Cond.methodLink R_law 60 (en_y z_X11_commute) ∈ lw_tbl := List.mem_of_getElem? (i := 1122) (by decide +kernel)
theorem lk2_commute : Cond.methodLink R_law 63 (en_y z_X12_commute) ∈ lw_tbl := List.mem_of_getElem? (i := 2100) (by decide +kernel)
theorem lk1_plain : Cond.methodLink R_law 64 (en_y z_X11_plain) ∈ lw_tbl := List.mem_of_getElem? (i := 1126) (by decide +kernel)
theorem lk2_plain : Cond.methodLink R_law 67 (en_y z_X12_plain) ∈ lw_tbl := List.mem_of_getElem? (i := 2104) (by decide +kernel)
theorem lk1_power : Cond.methodLink R_law 68 (en_y z_X11_power) ∈ lw_tbl := List.mem_of_getElem? (i := 1199) (by decide +kernel)
theorem lk2_power : Cond.methodLink R_law 71 (en_y z_X12_power_) ∈ lw_tbl := List.mem_of_getElem? (i := 2112) (by decide +kernel)
theorem lk1_alike : Cond.methodLink R_law 72 (en_y z_X11_alike) ∈ lw_tbl := List.mem_of_getElem? (i := 1207) (by decide +kernel)
theorem lk2_alike : Cond.methodLink R_law 75 (en_y z_X12_alike) ∈ lw_tbl := List.mem_of_getElem? (i := 2120) (by decide +kernel)
theorem lk1_size : Cond.methodLink R_law 76 (en_y z_X11_size) ∈ lw_tbl := List.mem_of_getElem? (i := 1215) (by decide +kernel)
theorem lk2_size : Cond.methodLink R_law 79 (en_y z_X12_size) ∈ lw_tbl := List.mem_of_getElem? (i := 2124) (by decide +kernel)
theorem lk1_normal : Cond.methodLink R_law 80 (en_y z_X11_normal) ∈ lw_tbl := List.mem_of_getElem? (i := 1223) (by decide +kernel)
theorem lk2_normal : Cond.methodLink R_law 83 (en_y z_X12_normal) ∈ lw_tbl := List.mem_of_getElem? (i := 2128) (by decide +kernel)
theorem lk1_form : Cond.methodLink R_law 84 (en_y z_X11_form) ∈ lw_tbl := List.mem_of_getElem? (i := 1239) (by decide +kernel)
theorem lk2_form : Cond.methodLink R_law 87 (en_y z_X12_form) ∈ lw_tbl := List.mem_of_getElem? (i := 2136) (by decide +kernel)
theorem lk1_table : Cond.methodLink R_law 88 (en_y z_X11_table) ∈ lw_tbl := List.mem_of_getElem? (i := 1249) (by decide +kernel)
theorem lk2_table : Cond.methodLink R_law 91 (en_y z_X12_table) ∈ lw_tbl := List.mem_of_getElem? (i := 2144) (by decide +kernel)
theorem lk1_base : Cond.methodLink R_law 92 (en_y z_X11_base) ∈ lw_tbl := List.mem_of_getElem? (i := 1257) (by decide +kernel)
theorem lk2_base : Cond.methodLink R_law 95 (en_y z_X12_base) ∈ lw_tbl := List.mem_of_getElem? (i := 2148) (by decide +kernel)
theorem lk1_baseAt : Cond.methodLink R_law 96 (en_y z_X11_baseAt) ∈ lw_tbl := List.mem_of_getElem? (i := 1273) (by decide +kernel)
theorem lk2_baseAt : Cond.methodLink R_law 99 (en_y z_X12_baseAt) ∈ lw_tbl := List.mem_of_getElem? (i := 2160) (by decide +kernel)
theorem lk1_closed : Cond.methodLink R_law 100 (en_y z_X11_closed) ∈ lw_tbl := List.mem_of_getElem? (i := 1281) (by decide +kernel)
theorem lk2_closed : Cond.methodLink R_law 104 (en_y z_X12_closed) ∈ lw_tbl := List.mem_of_getElem? (i := 2164) (by decide +kernel)
theorem lk1_left : Cond.methodLink R_law 105 (en_y z_X11_left) ∈ lw_tbl := List.mem_of_getElem? (i := 1303) (by decide +kernel)
theorem lk2_left : Cond.methodLink R_law 109 (en_y z_X12_left) ∈ lw_tbl := List.mem_of_getElem? (i := 2172) (by decide +kernel)
theorem lk1_growth : Cond.methodLink R_law 110 (en_y z_X11_growth) ∈ lw_tbl := List.mem_of_getElem? (i := 1336) (by decide +kernel)
theorem lk2_growth : Cond.methodLink R_law 113 (en_y z_X12_growth) ∈ lw_tbl := List.mem_of_getElem? (i := 2189) (by decide +kernel)
theorem lk1_chains : Cond.methodLink R_law 114 (en_y z_X11_chains) ∈ lw_tbl := List.mem_of_getElem? (i := 1365) (by decide +kernel)
theorem lk2_chains : Cond.methodLink R_law 117 (en_y z_X12_chains) ∈ lw_tbl := List.mem_of_getElem? (i := 2209) (by decide +kernel)
theorem lk1_dual : Cond.methodLink R_law 118 (en_y z_X11_dual) ∈ lw_tbl := List.mem_of_getElem? (i := 1386) (by decide +kernel)
theorem lk2_dual : Cond.methodLink R_law 121 (en_y z_X12_dual) ∈ lw_tbl := List.mem_of_getElem? (i := 2225) (by decide +kernel)
theorem lk1_bent : Cond.methodLink R_law 122 (en_y z_X11_bent) ∈ lw_tbl := List.mem_of_getElem? (i := 1415) (by decide +kernel)
theorem lk2_bent : Cond.methodLink R_law 125 (en_y z_X12_bent) ∈ lw_tbl := List.mem_of_getElem? (i := 2229) (by decide +kernel)
theorem lk1_inverse : Cond.methodLink R_law 126 (en_y z_X11_inverse) ∈ lw_tbl := List.mem_of_getElem? (i := 1424) (by decide +kernel)
theorem lk2_inverse : Cond.methodLink R_law 129 (en_y z_X12_inverse) ∈ lw_tbl := List.mem_of_getElem? (i := 2233) (by decide +kernel)
theorem lk1_centre : Cond.methodLink R_law 130 (en_y z_X11_centre) ∈ lw_tbl := List.mem_of_getElem? (i := 1434) (by decide +kernel)
theorem lk2_centre : Cond.methodLink R_law 133 (en_y z_X12_centre) ∈ lw_tbl := List.mem_of_getElem? (i := 2238) (by decide +kernel)
theorem lk1_rank : Cond.methodLink R_law 134 (en_y z_X11_rank) ∈ lw_tbl := List.mem_of_getElem? (i := 1465) (by decide +kernel)
theorem lk2_rank : Cond.methodLink R_law 138 (en_y z_X12_rank) ∈ lw_tbl := List.mem_of_getElem? (i := 2254) (by decide +kernel)
theorem lk1_points : Cond.methodLink R_law 139 (en_y z_X11_points) ∈ lw_tbl := List.mem_of_getElem? (i := 1473) (by decide +kernel)
theorem lk2_points : Cond.methodLink R_law 142 (en_y z_X12_points) ∈ lw_tbl := List.mem_of_getElem? (i := 2258) (by decide +kernel)
theorem lk1_modules : Cond.methodLink R_law 143 (en_y z_X11_modules) ∈ lw_tbl := List.mem_of_getElem? (i := 1568) (by decide +kernel)
theorem lk2_modules : Cond.methodLink R_law 146 (en_y z_X12_modules) ∈ lw_tbl := List.mem_of_getElem? (i := 2291) (by decide +kernel)
theorem lk1_weight : Cond.methodLink R_law 147 (en_y z_X11_weight) ∈ lw_tbl := List.mem_of_getElem? (i := 1573) (by decide +kernel)
theorem lk2_weight : Cond.methodLink R_law 150 (en_y z_X12_weight) ∈ lw_tbl := List.mem_of_getElem? (i := 2295) (by decide +kernel)
theorem lk1_trace : Cond.methodLink R_law 151 (en_y z_X11_trace) ∈ lw_tbl := List.mem_of_getElem? (i := 1582) (by decide +kernel)
theorem lk2_trace : Cond.methodLink R_law 154 (en_y z_X12_trace) ∈ lw_tbl := List.mem_of_getElem? (i := 2303) (by decide +kernel)
theorem lk1_hold : Cond.methodLink R_law 155 (en_y z_X11_hold) ∈ lw_tbl := List.mem_of_getElem? (i := 1587) (by decide +kernel)
theorem lk2_hold : Cond.methodLink R_law 159 (en_y z_X12_hold) ∈ lw_tbl := List.mem_of_getElem? (i := 2307) (by decide +kernel)
theorem lk1_restore : Cond.methodLink R_law 160 (en_y z_X11_restore) ∈ lw_tbl := List.mem_of_getElem? (i := 1595) (by decide +kernel)
theorem lk2_restore : Cond.methodLink R_law 163 (en_y z_X12_restore) ∈ lw_tbl := List.mem_of_getElem? (i := 2311) (by decide +kernel)
theorem lk1_count : Cond.methodLink R_law 164 (en_y z_X11_count) ∈ lw_tbl := List.mem_of_getElem? (i := 1603) (by decide +kernel)
theorem lk2_count : Cond.methodLink R_law 167 (en_y z_X12_count) ∈ lw_tbl := List.mem_of_getElem? (i := 2315) (by decide +kernel)
