/-! the law's start, and the claim -/
theorem st_inst {c : Nat} {q : vw_C} (h : classes[c]? = some q) : Cond.instantiable q.1 q.2.2 ∈ en_tb := by
  match c, h with
  | 0, h => cases h; exact en_tb_in 547 (by decide +kernel) (by decide +kernel)
  | 1, h => cases h; exact en_tb_in 405 (by decide +kernel) (by decide +kernel)
  | 2, h => cases h; exact en_tb_in 471 (by decide +kernel) (by decide +kernel)
  | 3, h => cases h; exact en_tb_in 360 (by decide +kernel) (by decide +kernel)
  | 4, h => cases h; exact en_tb_in 439 (by decide +kernel) (by decide +kernel)
  | 5, h => cases h; exact en_tb_in 258 (by decide +kernel) (by decide +kernel)
  | 6, h => cases h; exact en_tb_in 495 (by decide +kernel) (by decide +kernel)
  | 7, h => cases h; exact en_tb_in 250 (by decide +kernel) (by decide +kernel)
  | 8, h => cases h; exact en_tb_in 179 (by decide +kernel) (by decide +kernel)
  | 9, h => cases h; exact en_tb_in 312 (by decide +kernel) (by decide +kernel)
  | 10, h => cases h; exact en_tb_in 193 (by decide +kernel) (by decide +kernel)
  | 11, h => cases h; exact en_tb_in 171 (by decide +kernel) (by decide +kernel)
  | 12, h => cases h; exact en_tb_in 1623 (by decide +kernel) (by decide +kernel)
  | n + 13, h => cases h
abbrev st_tm (i : Nat) : Term := .string "WordAlgebra$Tokens" (([130, 136, 138, 140] : List Nat).getD i 0)
abbrev st_len : List Nat := [5, 6, 2, 3]
abbrev st_byt : List (List Int32) := [[112, 114, 105, 109, 101], [108, 101, 116, 116, 101, 114], [116, 111], [108, 97, 119]]
theorem st_f1 : ∀ i, i < 4 → (Cond.exactly (st_tm i) "java/lang/String") ∈ flatC (Cond.and given_1 narrow_1) := by decide +kernel
theorem st_f2 : ∀ i, i < 4 → (Cond.eq (.field (st_tm i) "java/lang/String" "coder" "B") (.int 0)) ∈ flatC (Cond.and given_1 narrow_1) := by decide +kernel
theorem st_f3 : ∀ i, i < 4 → (Cond.arrayOf (.field (st_tm i) "java/lang/String" "value" "[B") .byte) ∈ flatC (Cond.and given_1 narrow_1) := by decide +kernel
theorem st_f4 : ∀ i, i < 4 → (Cond.eq (.length (.field (st_tm i) "java/lang/String" "value" "[B")) (.int (Int32.ofNat (st_len.getD i 0)))) ∈ flatC (Cond.and given_1 narrow_1) := by decide +kernel
theorem st_f5 : ∀ i, i < 4 → ∀ j, j < st_len.getD i 0 → (Cond.eq (.elem (.field (st_tm i) "java/lang/String" "value" "[B") (.int (Int32.ofNat j))) (.int ((st_byt.getD i []).getD j 0))) ∈ flatC (Cond.and given_1 narrow_1) := by decide +kernel
theorem st_f6 : ∀ i, i < 4 → ∀ j, j < 4 → i ≠ j → (Cond.not (Cond.eq (st_tm i) (st_tm j))) ∈ flatC (Cond.and given_1 narrow_1) ∨ (Cond.not (Cond.eq (st_tm j) (st_tm i))) ∈ flatC (Cond.and given_1 narrow_1) := by decide +kernel
theorem st_f7 : (Cond.eq (.static "java/lang/String" "COMPACT_STRINGS" "Z") (.int 1)) ∈ flatC (Cond.and given_1 narrow_1) ∧ (Cond.isRef (.static "jdk/internal/util/Preconditions" "SIOOBE_FORMATTER" "Ljava/util/function/BiFunction;")) ∈ flatC (Cond.and given_1 narrow_1) := by decide +kernel
theorem st_X {p : Program} {s : State} {m : MethodId} {meth : Method} {c : Code} {b L : Nat} {xs : Nat → Int32} (C0 : lw_At p s m meth c b L xs) : en_X (fun q => s.heap.size ≤ q) s s.heap := by
  obtain ⟨hx, hb, hr, hml, hown, hts, hXs, hbl, hlocks, hgv⟩ := C0
  have hs := flat_of_before _ hgv
  have hA : ∀ a : Nat, a < s.heap.size → ¬ (fun q : Nat => s.heap.size ≤ q) a := fun a h => Nat.not_le.mpr h
  obtain ⟨adK, adV, hS, hE⟩ := vk_Sof (N := 4) (tm := st_tm) (len := st_len) (byt := st_byt) (A := fun q : Nat => s.heap.size ≤ q) (by decide) (fun i hi => hs _ (st_f1 i hi)) (fun i hi => hs _ (st_f2 i hi)) (fun i hi => hs _ (st_f3 i hi)) (fun i hi => hs _ (st_f4 i hi)) (fun i hi j hj => hs _ (st_f5 i hi j hj)) (fun i j hi hj hne => (st_f6 i hi j hj hne).imp (fun h => hs _ h) (fun h => hs _ h)) hA
  refine ⟨adK, adV, hS, ⟨vk_R.of (hts _ (List.mem_of_getElem? (i := 681) (by decide +kernel))) (hE 0 (by decide)), vk_R.of (hts _ (List.mem_of_getElem? (i := 733) (by decide +kernel))) (hE 1 (by decide)), vk_R.of (hts _ (List.mem_of_getElem? (i := 734) (by decide +kernel))) (hE 2 (by decide)), vk_R.of (hts _ (List.mem_of_getElem? (i := 735) (by decide +kernel))) (hE 3 (by decide))⟩, va_Zof (hts _ (List.mem_of_getElem? (i := 694) (by decide +kernel))) (hts _ (List.mem_of_getElem? (i := 164) (by decide +kernel))) (va_eqt (hs _ st_f7.1)) hA, va_Zqof (hts _ (List.mem_of_getElem? (i := 710) (by decide +kernel))) (hts _ (List.mem_of_getElem? (i := 166) (by decide +kernel))) (hs _ st_f7.2) hA⟩
theorem st_Q {p : Program} {s : State} {m : MethodId} {meth : Method} {c : Code} {b L : Nat} {xs : Nat → Int32} (C0 : lw_At p s m meth c b L xs) : ci_Q s := by
  obtain ⟨hx, hb, hr, hml, hown, hts, hXs, hbl, hlocks, hgv⟩ := C0
  refine ⟨over_moved (Vm.Alike.refl s.vm) (hts _ (List.mem_of_getElem? (i := 256) (by decide +kernel))), ?_⟩
  exact List.forall_mem_cons.mpr ⟨va_Nw.of rfl (hts _ (List.mem_of_getElem? (i := 180) (by decide +kernel))), List.forall_mem_cons.mpr ⟨va_Nw.of rfl (hts _ (List.mem_of_getElem? (i := 194) (by decide +kernel))), List.forall_mem_cons.mpr ⟨va_Nw.of rfl (hts _ (List.mem_of_getElem? (i := 251) (by decide +kernel))), fun _ h => absurd h List.not_mem_nil⟩⟩⟩
theorem st_K {p : Program} {s : State} {m : MethodId} {meth : Method} {c : Code} {b L : Nat} {xs : Nat → Int32} (C0 : lw_At p s m meth c b L xs) : ∃ (D : va_G) (cA : Nat → ClassId), va_K D classes (en_tys cA) s := by
  obtain ⟨hx, hb, hr, hml, hown, hts, hXs, hbl, hlocks, hgv⟩ := C0
  have hts2 : ∀ w ∈ en_tb, w.before #[Value.ref b] s = true := fun w hw => hts w (List.mem_filter.mp hw).1
  have h0 : ∀ k : Nat, ∃ x : ClassId × (Nat → Nat), ∀ q, classes[k]? = some q → u_Kn s q.1 q.2.1 q.2.2 x.1 x.2 := fun k => by
    cases hq : classes[k]? with
    | none => exact ⟨(m.cls, fun _ => 0), fun q h => by cases h⟩
    | some q =>
      obtain ⟨cC, iS, h⟩ := u_known hts2 (en_cls hq).1 (hts2 _ (st_inst hq))
      exact ⟨(cC, iS), fun q' h' => by cases h'; exact h⟩
  obtain ⟨d, hd⟩ := Classical.axiomOfChoice h0
  obtain ⟨a0, k0, p0, f0, g0, h0⟩ := Cond.arrayClass_spec (type := .int) (hts _ (List.mem_of_getElem? (i := 247) (by decide +kernel)))
  obtain ⟨a1, k1, p1, f1, g1, h1⟩ := Cond.arrayClass_spec (type := .byte) (hts _ (List.mem_of_getElem? (i := 191) (by decide +kernel)))
  obtain ⟨a2, k2, p2, f2, g2, h2⟩ := Cond.arrayClass_spec (type := .boolean) (hts _ (List.mem_of_getElem? (i := 1917) (by decide +kernel)))
  obtain ⟨a3, k3, p3, f3, g3, h3⟩ := Cond.arrayClass_spec (type := .long) (hts _ (List.mem_of_getElem? (i := 248) (by decide +kernel)))
  obtain ⟨p4, a4, k4, -, -, g4, h4, f4⟩ := arrayOverA_spec (t := .int) (hts _ (List.mem_of_getElem? (i := 256) (by decide +kernel)))
  refine ⟨(fun k => (d k).1, fun k => (d k).2), fun k => ([a0, a1, a2, a3] : List ClassId).getD k a4, fun k q hq => hd k q hq, fun k q hq => ?_⟩
  match k, hq with
  | 0, hq => cases hq; exact ⟨fun n z => ⟨fun k h => (by cases h), k0, g0, p0, h0⟩, f0⟩
  | 1, hq => cases hq; exact ⟨fun n z => ⟨fun k h => (by cases h), k1, g1, p1, h1⟩, f1⟩
  | 2, hq => cases hq; exact ⟨fun n z => ⟨fun k h => (by cases h), k2, g2, p2, h2⟩, f2⟩
  | 3, hq => cases hq; exact ⟨fun n z => ⟨fun k h => (by cases h), k3, g3, p3, h3⟩, f3⟩
  | 4, hq => cases hq; exact ⟨fun n z => ⟨fun k h => (by cases h), k4, g4, p4, h4⟩, f4⟩
  | k + 5, hq => cases hq
section STN
variable {p : Program} {l : Launch} {e : Env} {R : Room} {s : State} {m : MethodId} {args : Array Value} {below : List Frame} {meth : Method} {c : Code} {H H0 : Heap} {locs : List Loc} {cells slots : Nat} {Q : State → Prop} {sz : Nat} {cA : Nat → ClassId} {D : va_G} {pc : Nat} {ls : Array Slot} {rest st0 : List Value} {a : Array Value} {cc : ByteArray} {own : String}
theorem st_new {k idx : Nat} {C : List ci_c} {q : vw_C} (hx : p.tables.exec = Jvm.exec) (hb : c.code = cc) (hown : s.vm.findClass own = some m.cls) (hts : ∀ w ∈ en_tb, w.before args s = true) (hK : va_K D classes (en_tys cA) s) (hq : classes[k]? = some q) (hnew : ci_new k = true) (hlink : (Cond.classLink own idx q.1).before args s = true) (hz : H.size = sz + C.length) (hP : va_P D classes (ci_W sz cA C) H) (hS : va_S (fun q => sz ≤ q) H0 H locs) (hc : cells + 1 ≤ R.cells) (hsl : slots + q.2.2 ≤ R.slots) (hd : decode cc pc = .ok (.new idx, 3))
    (kk : ∀ H1 : Heap, H1.size = sz + C.length + 1 → va_P D classes (ci_W sz cA (C ++ [.inl (k, ci_zs k)])) H1 → va_S (fun q => sz ≤ q) H0 H1 locs → W p l e R s m args below meth c H1 locs (cells + 1) (slots + q.2.2) Q (F0 m (pc + 3) ls (.ref (sz + C.length) :: rest))) : W p l e R s m args below meth c H locs cells slots Q (F0 m pc ls rest) := by
  unfold ci_new at hnew
  simp only [Bool.and_eq_true] at hnew
  obtain ⟨ha, ⟨⟨hw1, hw2⟩, hlN⟩, hall⟩ := hnew
  have eN : en_fN k = q.2.2 := by unfold en_fN; rw [hq]
  have eC : ci_cn k = q.1 := by unfold ci_cn; rw [hq]
  have eF : ∀ j, en_fld k j = q.2.1 j := fun j => by unfold en_fld; rw [hq]
  rw [eN] at hw1 hall
  rw [eC] at hw1 hw2
  obtain ⟨hin, ty, hty, hnm2⟩ := en_cls hq
  have hKn := hK.1 k q hq
  have hfs : ∀ j, j < q.2.2 → defaultValue (ty j) = vp_V ((ci_zs k).map (ci_vl sz)) j := fun j hj => by
    rw [ci_vV]
    have g := List.all_eq_true.mp hall j (List.mem_range.mpr hj)
    rw [eF, hty j hj] at g
    exact ci_dk_ok g
  refine W.newcK (h := sz + C.length) hx hb hown hlink (hts _ (en_wd_in hw1)) (hts _ (en_wd_in hw2)) rfl hd hc hsl hKn.2.1 hz fun H1 kC hkC e1 z1 o1 => ?_
  rw [← hz] at e1 z1 o1
  have hP1 : va_P D classes (ci_W sz cA (C ++ [.inl (k, ci_zs k)])) H1 := ci_push hP hz o1 (fun j w hj => by
    cases j with
    | zero => cases hj; exact ⟨q, hq, (u_born ty hts hin hKn hkC e1 hty).to hfs⟩
    | succ j => cases hj)
  exact kk H1 (by omega) hP1 ⟨Nat.le_trans hS.1 (by omega), fun w g1 g2 => (o1 w (Nat.lt_of_lt_of_le g1 hS.1)).trans (hS.2.1 w g1 g2), hS.2.2⟩
theorem st_callW {mc ms : Nat} {ws : va_W} (hr : va_Run p l e R s m args below meth c H locs cells slots mc ms (F0 m pc ls st0) rest ((fun _ st oc t => (oc = .returned none ∧ va_P D classes ws t.heap) ∧ va_F (fun q => sz ≤ q) st t : Array Value → State → Outcome → State → Prop) a) (fun q => sz ≤ q)) (hS : va_S (fun q => sz ≤ q) H0 H locs)
    (kk : ∀ (H1 : Heap) (locs1 : List Loc), va_P D classes ws H1 → va_S (fun q => sz ≤ q) H0 H1 locs1 → W p l e R s m args below meth c H1 locs1 (cells + mc) (slots + ms) Q (F0 m (pc + 3) ls rest)) : W p l e R s m args below meth c H locs cells slots Q (F0 m pc ls st0) := by
  intro T hT X
  obtain ⟨v, st₀, t, T', L, h0, X', hL, e1, e2, ⟨⟨hv, hp⟩, hz, hk⟩, st⟩ := hr T hT X
  cases hv
  rw [h0] at hz hk
  obtain ⟨t2, a1, b1⟩ := kk T'.heap (locs ++ L) (by rw [e1]; exact hp)
    ⟨Nat.le_trans hS.1 (by rw [e1]; exact hz), fun q h1 h2 => by rw [e1, hk q (Nat.lt_of_lt_of_le h1 hS.1) h2]; exact hS.2.1 q h1 h2, fun q hq => by
      rcases List.mem_append.mp hq with h | h
      · exact hS.2.2 q h
      · exact hL q h⟩ T' rfl X'
  exact ⟨t2, st t2 a1, b1⟩
end STN
set_option maxHeartbeats 4000000 in
set_option maxRecDepth 100000 in
theorem whole_start {p : Program} {e : Env} {s : State} {m : MethodId} {below : List Frame} {meth : Method} {c : Code} (l : Launch) (hflags : l.flags = flags0) {b L : Nat} {xs : Nat → Int32} (hL : L ≤ 3072) (C0 : lw_At p s m meth c b L xs) : W p l e room_1 s m #[Value.ref b] below meth c s.heap [] 0 0 (lw_Z below #[Value.ref b] s) (entryFrame m ([Value.ref b] : List Value).toArray 4) := by
  have OK := en_ok_all
  have WK := en_wk_all l
  obtain ⟨D, cA, hK⟩ := st_K C0
  have hX := st_X C0
  have hQ := st_Q C0
  obtain ⟨σ7, hiX, hM12⟩ := tl_init OK WK
  obtain ⟨hx, hb, hr, hml, hown, hts, hXs, hbl, hlocks, hgv⟩ := id C0
  have hts2 : ∀ w ∈ en_tb, w.before #[Value.ref b] s = true := fun w hw => hts w (List.mem_filter.mp hw).1
  obtain ⟨hl1, hl2, hl3, hl4, hl5⟩ := ci_l11
  have hl := lv_entry ([.ref b]) (n := 4) (Nat.le_of_ble_eq_true rfl)
  rw [lg_entry_eq]
  generalize (lg_sl ([.ref b]) ++ List.replicate (4 - (lg_sl ([.ref b])).length) Slot.unset).toArray = ls at hl ⊢
  have hl : lv_has ls 4 [(0, .ref b)] := hl
  have hP0 : va_P D classes (ci_W s.heap.size cA []) s.heap := fun k q h => by cases h
  refine st_new (k := 11) (idx := 7) (own := R_law) (C := []) hx hb hown hts2 hK (q := (RX11, TX11, 15)) rfl (by decide +kernel) (hts _ (List.mem_of_getElem? (i := 170) (by decide +kernel))) rfl hP0 va_S.rf (Nat.le_of_ble_eq_true rfl) (Nat.le_of_ble_eq_true rfl) d_law_0 (fun H1 z1 hP1 hS1 => ?_)
  refine lv_dup hx hb d_law_3 rfl ?_
  obtain ⟨⟨ls11, hev⟩, n1, n2⟩ := ci_dn_of ci_r11
  obtain ⟨⟨w1, w2, w3⟩, wd, wp, wn, -, wnm, -⟩ := ci_mchk_of ci_ok (a := 11) (by decide)
  have hM11 : Met l (ci_y 11) (ci_ws 11) (ci_rm 11) (ci_Pc s.heap.size cA D [.inr (.inr (0, 0))] [.inl (11, ci_zs 11)]) (ci_Qc s.heap.size cA D (ci_11.take 241)) (ci_ce 11) (ci_sl 11) (fun q => s.heap.size ≤ q) := ci_met ci_ok (ci_all ci_ok l 3000) (by decide) (by decide) (Nat.le_of_ble_eq_true rfl) n1 n2 hev
  have cw11 : CallB room_1 s #[Value.ref b] R_law 9 (ci_y 11) (ci_B 11) (ci_mL 11) none (ci_ws 11) (ci_rm 11) (ci_ce 11) (ci_sl 11) 0 ∧ (ci_y 11).name = "<init>" ∧ (Cond.instanceMethod (ci_y 11)).before #[Value.ref b] s = true := ⟨callB_of 0 hts2 (pu_good w1) rfl rfl rfl (hts2 _ w3) (hts _ (List.mem_of_getElem? (i := 172) (by decide +kernel))) wd ⟨Nat.le_of_ble_eq_true rfl, Nat.le_of_ble_eq_true rfl⟩, wnm (by decide), hts2 _ w2⟩
  refine ci_callW (va_runI (Ts := en_tb) (As := []) (rest := [.ref (s.heap.size + 0)]) ⟨hx, hb, hml, hown, hts2⟩ hM11 cw11 ⟨ci_fb _ cA D _ _, fun U hU hW => ⟨rfl, by rw [hU]; exact z1, by rw [hU]; exact hP1, va_K.moved hW.alike hK, ci_Q_warm hW hQ⟩⟩ rfl rfl hl.1 rfl (lv_room (Nat.le_of_ble_eq_true rfl)) d_law_4 ⟨Nat.le_of_ble_eq_true rfl, Nat.le_of_ble_eq_true rfl⟩) hS1 (fun H2 locs2 z2 hP2 hS2 => ?_)
  refine lv_astore_n (lv' := [(1, .ref (s.heap.size + 0)), (0, .ref b)]) hx hb d_law_7 rfl hl (by decide) rfl (fun ls hl => ?_)
  refine st_new (k := 12) (idx := 10) (own := R_law) (C := ci_11.take 241) hx hb hown hts2 hK (q := (RX12, TX12, 74)) rfl (by decide +kernel) (hts _ (List.mem_of_getElem? (i := 1622) (by decide +kernel))) z2 hP2 hS2 (Nat.le_of_ble_eq_true rfl) (Nat.le_of_ble_eq_true rfl) d_law_8 (fun H3 z3 hP3 hS3 => ?_)
  rw [← hl1] at hP3
  rw [hl3] at z3 ⊢
  refine lv_dup hx hb d_law_11 rfl ?_
  obtain ⟨⟨v1, v2, v3⟩, vd, vp, vn, -, vnm, -⟩ := ci_mchk_of ci_ok (a := 12) (by decide)
  have cw12 : CallB room_1 s #[Value.ref b] R_law 12 (ci_y 12) (ci_B 12) (ci_mL 12) none (ci_ws 12) (ci_rm 12) (ci_ce 12) (ci_sl 12) 0 ∧ (ci_y 12).name = "<init>" ∧ (Cond.instanceMethod (ci_y 12)).before #[Value.ref b] s = true := ⟨callB_of 0 hts2 (pu_good v1) rfl rfl rfl (hts2 _ v3) (hts _ (List.mem_of_getElem? (i := 1624) (by decide +kernel))) vd ⟨Nat.le_of_ble_eq_true rfl, Nat.le_of_ble_eq_true rfl⟩, vnm (by decide), hts2 _ v2⟩
  refine st_callW (a := (Value.ref (s.heap.size + 241) :: ([] : List Value)).toArray) (va_runI (Ts := en_tb) (As := []) (rest := [.ref (s.heap.size + 241)]) ⟨hx, hb, hml, hown, hts2⟩ (hM12 s.heap.size cA D) cw12 ⟨tl_fb _ cA D, fun U hU hW => ⟨rfl, by rw [hU, hl2]; exact z3, by rw [hU]; exact hP3, va_K.moved hW.alike hK, ci_Q_warm hW hQ, by rw [hU]; exact en_X_warm hW (en_X_kept hX (fun q h1 h2 => hS3.2.1 q h1 h2))⟩⟩ rfl rfl hl.1 rfl (lv_room (Nat.le_of_ble_eq_true rfl)) d_law_12 ⟨Nat.le_of_ble_eq_true rfl, Nat.le_of_ble_eq_true rfl⟩) hS3 (fun H4 locs4 hP4 hS4 => ?_)
  refine lv_astore_n (lv' := [(2, .ref (s.heap.size + 241)), (1, .ref (s.heap.size + 0)), (0, .ref b)]) hx hb d_law_15 rfl hl (by decide) rfl (fun ls hl => ?_)
  refine lv_iconst (v := nI 0) hx hb d_law_16 (by decide) ?_
  refine lv_istore_n (lv' := [(3, .int (nI 0)), (2, .ref (s.heap.size + 241)), (1, .ref (s.heap.size + 0)), (0, .ref b)]) hx hb d_law_17 rfl hl (by decide) rfl (fun ls hl => ?_)
  exact lw_loop OK WK ⟨C0, hK, hX⟩ ⟨Nat.le_of_ble_eq_true rfl, Nat.le_of_ble_eq_true rfl⟩ hL (cv_D s.heap.size cA) (L + 6) 0 (by omega) σ7 H4 locs4 ls (by omega) hiX hP4 hS4 (lv_sub hl [0, 3, 2, 1] rfl)
set_option maxHeartbeats 4000000 in
theorem lw_walk (l : Launch) (hflags : l.flags = flags0) (b : Addr) (xs : List Int32) : MetFree l x (headSpec (Jvm.Cond.code x code maxLocals ret :: tables_1) room_1) (lw_P b xs) (fun _ _ _ _ _ => True) lw_Q := by
  refine MetFree.of_bodyS (code := code) (maxLocals := maxLocals) (ret := ret) (by decide) ?_ ?_
  · intro args s m h hn
    obtain ⟨meth, c, h1, h2, h3, h4, h5, h6, -, -⟩ := Cond.code_spec hn (atoms_spec (ws := Jvm.Cond.code x code maxLocals ret :: tables_1) h _ List.mem_cons_self)
    exact ⟨meth, c, h1, h2, h3, h4, h5, h6⟩
  · intro p e s m args below meth c s₁ B hml0 hP _
    obtain ⟨rfl, hx, hbd, hgv⟩ := hP
    obtain ⟨scr, harrAt, hlist, hof, hsmall⟩ := hx
    obtain ⟨hcb, hkn, -, -⟩ := State.arrayAt?_spec harrAt
    have hown : s.vm.findClass R_law = some m.cls := findClass_of_methodNamed B.named
    have hts0 : ∀ c ∈ (Jvm.Cond.code x code maxLocals ret :: tables_1), c.before #[Value.ref b] s = true := atoms_spec (ws := Jvm.Cond.code x code maxLocals ret :: tables_1) B.pre
    have hts : ∀ w ∈ lw_tbl, w.before #[Value.ref b] s = true := k2_hts_sels lw_privs (fun w hw => hts0 w (List.mem_cons_of_mem _ hw)) lw_privs_ok
    have hml : c.maxLocals = 4 := B.maxLocals_eq (hts0 _ List.mem_cons_self)
    have X₀ : Stand p l e room_1 s m #[Value.ref b] below meth c s₁ [] 0 0 := Stand.of_body B
    have hh0 : s₁.heap = s.heap := by rw [B.state]; rfl
    have hsz : scr.slots.size = xs.length := by rw [← Array.length_toList, hlist, List.length_map]
    have hval : ∀ j : Nat, j < xs.length → scr.slots[j]? = some (.int (xs.getD j 0)) := fun j hj => by
      rw [← Array.getElem?_toList, hlist]
      simp [hj]
    have hbl : b < s.heap.size := (Array.getElem?_eq_some_iff.mp hcb).1
    have hX : va_X b xs.length (fun j => xs.getD j 0) s s.heap := ⟨scr, hcb, hof, hkn, hsz, hval⟩
    have K : W p l e room_1 s m #[Value.ref b] below meth c s₁.heap [] 0 0 (lw_Z below #[Value.ref b] s) (entryFrame m ([Value.ref b] : List Value).toArray 4) := by
      rw [hh0]
      exact whole_start l hflags hbd ⟨B.exec, B.bytes, B.returns, hml, hown, hts, hX, hbl, B.notSynchronized, hgv⟩
    obtain ⟨t, a1, o, b1, b2, b3⟩ := K s₁ rfl X₀
    exact ⟨t, o, a1, b1, b2, b3⟩
theorem lw_pre_spec {args : Array Value} {s : State} (h : (Jvm.Cond.and given_1 narrow_1).before args s = true) (hr : rest_1_c.before args s = true) : ∃ (b : Addr) (xs : List Int32), lw_P b xs args s := by
  have hs := flat_of_before _ h
  have hq := flat_of_before _ hr
  have hc : (Cond.count 1).before args s = true := hs _ (by decide +kernel)
  have harr : (Cond.arrayOf (.arg 0) .int).before args s = true := hs _ (by decide +kernel)
  have hle : (Cond.le (.length (.arg 0)) (.int 3072)).before args s = true := hs _ (by decide +kernel)
  have hlen : (Cond.isInt (.length (.arg 0))).before args s = true := hq _ (by decide +kernel)
  have hall : (Cond.all (.arg 0) (.isInt (.elem (.arg 0) (.index 0)))).before args s = true := hq _ (by decide +kernel)
  obtain ⟨b, xs, hb, hx⟩ := State.ints_of_pre rfl harr hlen hall
  have hsm : xs.length < 2 ^ 31 := hx.choose_spec.2.2.2
  have hev : (Term.length (.arg 0)).eval args s none [] s = some (.int xs.length.toInt32) := hx.length_eval hb
  have hv := Cond.le_ints hev (show (Term.int 3072).eval args s none [] s = some (.int 3072) from rfl)
  have hd : xs.length.toInt32 ≤ 3072 := by
    simpa [Cond.before, Cond.holds, hv] using hle
  have hN : xs.length ≤ 3072 := (Int32.ofNat_le_ofNat hsm (by decide)).mp (show Int32.ofNat xs.length ≤ Int32.ofNat 3072 from hd)
  exact ⟨b, xs, Cond.one_arg hc (show args[0]? = some (.ref b) from hb), hx, hN, h⟩
theorem lw_comes (l : Launch) (hflags : l.flags = flags0) : Comes l x (Jvm.Cond.code x code maxLocals ret :: tables_1) room_1 (fun tb e args s => Calls_1 tb e args s ∧ rest_1 tb e args s ∧ Pre_1 tb e args s)
    (fun _ _ args s o t => lw_Q args s o t) := by
  intro p e ha hc hk s m args below hf hfit hheap happ hpre
  obtain ⟨b, xs, hP⟩ := lw_pre_spec hpre.2.2 hpre.2.1
  obtain ⟨k, o, h1, h2, h3, hQ⟩ := lw_walk l hflags b xs p e ha hc hk s m args below hf ((Spec.applies_iff_loose hf).mp happ).1 hP trivial
  exact ⟨k, o, h1, h2, h3, hQ⟩
theorem lw_frame {s t : State} {o : Outcome} {args : Array Value} (h : Framed s o t [] 600000 7302250) :
    Framed s o t (fieldLocs frame_1_writes args s ++ arrayLocs frame_1_arrays args s ++ staticLocs frame_1_statics s) 600000 7302250 := h
theorem lw_limb (L : Cond) (hL : ∀ (args : Array Value) (s t : State), L.after args s (.returned (some (.int 1))) t = true) :
    ArmFor flags0 classFile x code maxLocals ret World_1 tables_1 room_1 Calls_1 rest_1 Pre_1
      (fun tb e a s o t => postC L tb e a s o t ∧ Framed s o t (fieldLocs frame_1_writes a s ++ arrayLocs frame_1_arrays a s ++ staticLocs frame_1_statics s) 600000 7302250) := by
  intro l hflags _ _ p e ha hc hk s m args below hf hfit hheap happ hpre
  obtain ⟨k, o, h1, h2, h3, rfl, hF⟩ := lw_comes l hflags p e ha hc hk s m args below hf hfit hheap happ hpre
  exact ⟨k, _, h1, h2, h3, hL args s _, lw_frame hF⟩
theorem i_vc : Claimed_1_1 ∧ Claimed_1_2 := ⟨lw_limb limb_1_1 (fun args s t => by simp [limb_1_1, Cond.after, Cond.holds, Cond.value]), lw_limb limb_1_2 (fun args s t => Cond.after_iff.mpr (by
  first | (rw [show limb_1_2 = Cond.eq .result (.int 1) from rfl, Cond.eq_ints (x := 1) (y := 1) rfl rfl]; simp; done) | (simp [limb_1_2, Cond.value, Term.eval]; done)))⟩
