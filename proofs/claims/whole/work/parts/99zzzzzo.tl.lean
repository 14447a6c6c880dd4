/-! the model's constructor from where it has made all: keys, the prime, measures, nothing -/
section TLC
variable {p : Program} {l : Launch} {e : Env} {R : Room} {s : State} {m : MethodId} {args : Array Value} {below : List Frame} {meth : Method} {c : Code} {ad : Nat → Int → Nat} {cA : Nat → ClassId} {D : va_G} {ls : Array Slot} {H : Heap} {locs : List Loc} {σ σ1 : en_m} {v : Option en_v} {Q : State → Prop} {cells slots a idx pc nL sz : Nat} {cc : ByteArray} {own : String} {rest st0 : List Value}
theorem tl_AA (hD : va_D (fun q => sz ≤ q) (en_W ad cA σ)) (hS : va_S (fun q => sz ≤ q) s.heap H locs) (hsz : sz ≤ s.heap.size) : ∀ q, en_A ad H.size q → sz ≤ q := fun q hq => by
  rcases hq with ⟨k2, b2, h1, h2⟩ | hq
  · obtain ⟨q0, -, g⟩ := en_W_at (ad := ad) (cA := cA) (σ := σ) h1
    have := hD.2 q0 _ g
    rw [h2]
    exact this
  · exact Nat.le_trans hsz (Nat.le_trans hS.1 hq)
theorem tl_callS {as : List en_v} (OK : en_OK) (ha : a < 332) (hx : p.tables.exec = Jvm.exec) (hb : c.code = cc) (hml : c.maxLocals = nL) (hown : s.vm.findClass own = some m.cls) (hts : ∀ w ∈ en_tb, w.before args s = true) (hK : va_K D classes (en_tys cA) s) (hX : en_X (fun q => sz ≤ q) s s.heap) (hsz : sz ≤ s.heap.size) (hP : va_P D classes (en_W ad cA σ) H) (hD : va_D (fun q => sz ≤ q) (en_W ad cA σ)) (hS : va_S (fun q => sz ≤ q) s.heap H locs) (hls : ls.size = nL)
    (hM : ∀ (ad : Nat → Int → Nat) (cA : Nat → ClassId) (D : va_G) (sz : Nat), Met l (en_y a) (en_ws a) (en_rm a) (en_Pc ad cA D as σ sz) (en_Qc ad cA D v σ1 sz) 0 0 (en_A ad sz))
    (hst : en_is a = true) (hlen : as.length = en_na a) (hlink : Cond.methodLink own idx (en_y a) ∈ en_tb) (hroom : en_fr a + 1 ≤ R.frames ∧ 8 + (en_mL a + 11) + en_lo a ≤ R.locals) (hcat : (rest.map fun v => v.category).sum ≤ 8) (hd : decode cc pc = .ok (.invokestatic idx, 3)) (hrm : cells ≤ R.cells ∧ slots ≤ R.slots) (hstk : st0 = (as.map (en_rv ad)).reverse ++ rest)
    (kk : ∀ (H1 : Heap) (locs1 : List Loc), va_P D classes (en_W ad cA σ1) H1 → va_S (fun q => sz ≤ q) s.heap H1 locs1 → W p l e R s m args below meth c H1 locs1 cells slots Q (F0 m (pc + 3) ls ((v.map (en_rv ad)).toList ++ rest))) : W p l e R s m args below meth c H locs cells slots Q (F0 m pc ls st0) := by
  obtain ⟨⟨w1, w2⟩, w3, -, wS, wV⟩ := en_mchk_of OK ha
  have hAA := tl_AA hD hS hsz
  have hXH : en_X (en_A ad H.size) s H := en_X_narrow (en_X_kept hX (fun q h1 h2 => hS.2.1 q h1 h2)) hAA
  have hpre : ∀ U : State, U.heap = H → s.WarmedH U.vm → en_Pc ad cA D as σ H.size (as.map (en_rv ad)).toArray U := fun U hU hW => ⟨rfl, by rw [hU], by rw [hU]; exact hP, va_K.moved hW.alike hK, hD.weaken (fun _ _ _ _ => trivial), by rw [hU]; exact en_X_warm hW hXH⟩
  obtain ⟨v1, v2⟩ := wS hst
  have cw : CallB R s args own idx (en_y a) (en_B a) (en_mL a) (en_rt a) (en_ws a) (en_rm a) 0 0 (en_na a) ∧ (Cond.static (en_y a)).before args s = true := ⟨callB_of (en_na a) hts (en_good OK ha) rfl rfl rfl (hts _ w2) (hts _ hlink) ⟨w3.1, w3.2, v2⟩ hroom, hts _ v1⟩
  exact en_callW (va_runS (Ts := en_tb) ⟨hx, hb, hml, hown, hts⟩ (hM ad cA D H.size) cw ⟨en_fb ad cA D _ σ H.size, hpre⟩ rfl (by rw [List.length_map]; exact hlen) hls hstk (lv_room hcat) hd hrm) hS (fun q _ h => hAA q h) hAA kk
theorem tl_callV {k ci : Nat} {fs : List (Nat × Nat × Nat)} {q : vw_C} {as' : List en_v} (OK : en_OK) (ha : a < 332) (hx : p.tables.exec = Jvm.exec) (hb : c.code = cc) (hml : c.maxLocals = nL) (hown : s.vm.findClass own = some m.cls) (hts : ∀ w ∈ en_tb, w.before args s = true) (hK : va_K D classes (en_tys cA) s) (hX : en_X (fun q => sz ≤ q) s s.heap) (hsz : sz ≤ s.heap.size) (hP : va_P D classes (en_W ad cA σ) H) (hD : va_D (fun q => sz ≤ q) (en_W ad cA σ)) (hS : va_S (fun q => sz ≤ q) s.heap H locs) (hls : ls.size = nL)
    (hM : ∀ (ad : Nat → Int → Nat) (cA : Nat → ClassId) (D : va_G) (sz : Nat), Met l (en_y a) (en_ws a) (en_rm a) (en_Pc ad cA D (.inr (.inr (k, 0)) :: as') σ sz) (en_Qc ad cA D v σ1 sz) 0 0 (en_A ad sz))
    (hmem : (k, (0 : Int)) ∈ en_C) (hk : en_K k = .inl (ci, fs)) (hc : classes[ci]? = some q) (hq : q.1 = (en_y a).cls) (hst : en_is a = false) (hlen : as'.length = en_na a - 1) (hlink : Cond.methodLink own idx (en_y a) ∈ en_tb) (hroom : en_fr a + 1 ≤ R.frames ∧ 8 + (en_mL a + 11) + en_lo a ≤ R.locals) (hcat : (rest.map fun v => v.category).sum ≤ 8) (hd : decode cc pc = .ok (.invokevirtual idx, 3)) (hrm : cells ≤ R.cells ∧ slots ≤ R.slots) (hstk : st0 = (as'.map (en_rv ad)).reverse ++ .ref (ad k 0) :: rest)
    (kk : ∀ (H1 : Heap) (locs1 : List Loc), va_P D classes (en_W ad cA σ1) H1 → va_S (fun q => sz ≤ q) s.heap H1 locs1 → W p l e R s m args below meth c H1 locs1 cells slots Q (F0 m (pc + 3) ls ((v.map (en_rv ad)).toList ++ rest))) : W p l e R s m args below meth c H locs cells slots Q (F0 m pc ls st0) := by
  obtain ⟨⟨w1, w2⟩, w3, -, wS, wV⟩ := en_mchk_of OK ha
  have hAA := tl_AA hD hS hsz
  have hXH : en_X (en_A ad H.size) s H := en_X_narrow (en_X_kept hX (fun q h1 h2 => hS.2.1 q h1 h2)) hAA
  have hpre : ∀ U : State, U.heap = H → s.WarmedH U.vm → en_Pc ad cA D (.inr (.inr (k, 0)) :: as') σ H.size (((.inr (.inr (k, 0)) :: as') : List en_v).map (en_rv ad)).toArray U := fun U hU hW => ⟨rfl, by rw [hU], by rw [hU]; exact hP, va_K.moved hW.alike hK, hD.weaken (fun _ _ _ _ => trivial), by rw [hU]; exact en_X_warm hW hXH⟩
  obtain ⟨v1, v2, v3, v4⟩ := wV hst
  have cw : CallW R s args own (en_y a).cls idx (en_y a) (en_B a) (en_mL a) (en_rt a) (en_ws a) (en_rm a) 0 0 (en_na a - 1) := ⟨callB_of (en_na a - 1) hts (en_good OK ha) rfl rfl rfl (hts _ w2) (hts _ hlink) ⟨w3.1, w3.2, v4⟩ hroom, hts _ v1, hts _ v2⟩
  have hlen2 : (as'.map (en_rv ad)).length = en_na a - 1 := by rw [List.length_map]; exact hlen
  obtain ⟨q0, -, hw0⟩ := en_W_at (ad := ad) (cA := cA) (σ := σ) hmem
  have hen : en_en ad cA σ (k, 0) = .inr (ci, fs.map (en_fv ad σ)) := by unfold en_en; dsimp only; rw [hk]
  rw [hen] at hw0
  have hrcv := va_recv hK hP (ci := ci) (q0 := q0) hc hw0
  rw [hq] at hrcv
  exact en_callW (va_runV (Ts := en_tb) ⟨hx, hb, hml, hown, hts⟩ (hM ad cA D H.size) cw ⟨en_fb ad cA D _ σ H.size, hrcv, hpre⟩ rfl hlen2 hls hstk (lv_room hcat) hd hrm) hS (fun q _ h => hAA q h) hAA kk
/-- a field that holds a row of its own -/
theorem tl_get {k ci b r t : Nat} {fs : List (Nat × Nat × Nat)} {q : vw_C} (hx : p.tables.exec = Jvm.exec) (hb : c.code = cc) (hown : s.vm.findClass own = some m.cls) (hts : ∀ w ∈ en_tb, w.before args s = true) (hK : va_K D classes (en_tys cA) s) (hP : va_P D classes (en_W ad cA σ) H) (hmem : (k, (0 : Int)) ∈ en_C) (hk : en_K k = .inl (ci, fs)) (hc : classes[ci]? = some q) (hbN : b < q.2.2) (hf : fs[b]? = some (3, r, t)) (hlink : Cond.fieldLink own idx (q.2.1 b).1 (q.2.1 b).2.1 (q.2.1 b).2.2.1 ∈ en_tb) (hd : decode cc pc = .ok (.getfield idx, 3))
    (kk : W p l e R s m args below meth c H locs cells slots Q (F0 m (pc + 3) ls (.ref (ad r 0) :: rest))) : W p l e R s m args below meth c H locs cells slots Q (F0 m pc ls (.ref (ad k 0) :: rest)) := by
  obtain ⟨q0, -, hw0⟩ := en_W_at (ad := ad) (cA := cA) (σ := σ) hmem
  rw [en_K_cls (q := (k, 0)) hk] at hw0
  obtain ⟨hin, ty0, hty, hnm⟩ := en_cls hc
  exact va_get (C := q.1) (T := q.2.1) (N := q.2.2) hx hb hts hin hown hK hP q0 hw0 hc b hbN (hts _ hlink) (fun _ h => h) (v := .ref (ad r 0)) (by rw [List.getElem?_map, hf]; rfl) hd kk
theorem tl_last {r n t j : Nat} {x : Int} (hx : p.tables.exec = Jvm.exec) (hb : c.code = cc) (hK : va_K D classes (en_tys cA) s) (hP : va_P D classes (en_W ad cA σ) H) (hD : va_D (fun q => sz ≤ q) (en_W ad cA σ)) (hS : va_S (fun q => sz ≤ q) s.heap H locs) (hmem : (r, (0 : Int)) ∈ en_C) (hk : en_K r = .inr (3, n, t)) (hj : j < n) (hn : n < 1000) (hd : decode cc pc = .ok (.lastore, 1))
    (kk : ∀ (H1 : Heap) (locs1 : List Loc), va_P D classes (en_W ad cA (sr σ r (up (σ r) j x))) H1 → va_S (fun q => sz ≤ q) s.heap H1 locs1 → W p l e R s m args below meth c H1 locs1 cells slots Q (F0 m (pc + 1) ls rest)) : W p l e R s m args below meth c H locs cells slots Q (F0 m pc ls (.long (Int64.ofInt x) :: .int (nI j) :: .ref (ad r 0) :: rest)) := by
  obtain ⟨q0, hq0, hw⟩ := en_W_at (ad := ad) (cA := cA) (σ := σ) hmem
  have hen : en_en ad cA σ (r, 0) = .inl (cA 3, n, .inr (.inl (en_fl n (σ r) 0))) := by unfold en_en; dsimp only; rw [hk]; rfl
  rw [hen] at hw
  have hset : (en_W ad cA σ).set q0 (ad r 0, .inl (cA 3, n, .inr (.inl (en_fl n (up (σ r) (0 + (j : Int)) x) 0)))) = en_W ad cA (sr σ r (up (σ r) (0 + (j : Int)) x)) := by
    refine en_W_set hq0 ?_ (en_o_arr hmem hk (fun y hy => ?_))
    · unfold en_en; dsimp only; rw [hk, sr_same]; rfl
    · unfold up; rw [if_neg (by omega)]
  refine va_last hx hb hK hP hD hS q0 3 hw rfl (vp_in_nI hj (by omega)) hd (fun H1 locs1 hP1 hD1 hS1 => ?_)
  rw [nI_clamp (by omega), en_upd_l hj, hset, Int.zero_add] at hP1
  exact kk H1 locs1 hP1 hS1
theorem tl_iast {r n t j : Nat} {x : Int} (hx : p.tables.exec = Jvm.exec) (hb : c.code = cc) (hK : va_K D classes (en_tys cA) s) (hP : va_P D classes (en_W ad cA σ) H) (hD : va_D (fun q => sz ≤ q) (en_W ad cA σ)) (hS : va_S (fun q => sz ≤ q) s.heap H locs) (hmem : (r, (0 : Int)) ∈ en_C) (hk : en_K r = .inr (0, n, t)) (hj : j < n) (hn : n < 1000) (hd : decode cc pc = .ok (.iastore, 1))
    (kk : ∀ (H1 : Heap) (locs1 : List Loc), va_P D classes (en_W ad cA (sr σ r (up (σ r) j x))) H1 → va_S (fun q => sz ≤ q) s.heap H1 locs1 → W p l e R s m args below meth c H1 locs1 cells slots Q (F0 m (pc + 1) ls rest)) : W p l e R s m args below meth c H locs cells slots Q (F0 m pc ls (.int (Int32.ofInt x) :: .int (nI j) :: .ref (ad r 0) :: rest)) := by
  obtain ⟨q0, hq0, hw⟩ := en_W_at (ad := ad) (cA := cA) (σ := σ) hmem
  have hen : en_en ad cA σ (r, 0) = .inl (cA 0, n, .inl (en_fi n (σ r) 0)) := by unfold en_en; dsimp only; rw [hk]; rfl
  rw [hen] at hw
  have hset : (en_W ad cA σ).set q0 (ad r 0, .inl (cA 0, n, .inl (en_fi n (up (σ r) (0 + (j : Int)) x) 0))) = en_W ad cA (sr σ r (up (σ r) (0 + (j : Int)) x)) := by
    refine en_W_set hq0 ?_ (en_o_arr hmem hk (fun y hy => ?_))
    · unfold en_en; dsimp only; rw [hk, sr_same]; rfl
    · unfold up; rw [if_neg (by omega)]
  refine va_iast hx hb hK hP hD hS q0 0 hw rfl (vp_in_nI hj (by omega)) hd (fun H1 locs1 hP1 hD1 hS1 => ?_)
  rw [nI_clamp (by omega), en_upd_i hj, hset, Int.zero_add] at hP1
  exact kk H1 locs1 hP1 hS1
end TLC
theorem dt_465 : decode prog_14_method_2_code 465 = .ok (.aload_n 0, 1) := by decide +kernel
theorem dt_466 : decode prog_14_method_2_code 466 = .ok (.getfield 34, 3) := by decide +kernel
theorem dt_469 : decode prog_14_method_2_code 469 = .ok (.iconst 0, 1) := by decide +kernel
theorem dt_470 : decode prog_14_method_2_code 470 = .ok (.bipush 112, 2) := by decide +kernel
theorem dt_472 : decode prog_14_method_2_code 472 = .ok (.bipush 114, 2) := by decide +kernel
theorem dt_474 : decode prog_14_method_2_code 474 = .ok (.bipush 105, 2) := by decide +kernel
theorem dt_476 : decode prog_14_method_2_code 476 = .ok (.bipush 109, 2) := by decide +kernel
theorem dt_478 : decode prog_14_method_2_code 478 = .ok (.bipush 101, 2) := by decide +kernel
theorem dt_480 : decode prog_14_method_2_code 480 = .ok (.iconst 0, 1) := by decide +kernel
theorem dt_481 : decode prog_14_method_2_code 481 = .ok (.iconst 0, 1) := by decide +kernel
theorem dt_482 : decode prog_14_method_2_code 482 = .ok (.invokestatic 188, 3) := by decide +kernel
theorem dt_485 : decode prog_14_method_2_code 485 = .ok (.lastore, 1) := by decide +kernel
theorem dt_486 : decode prog_14_method_2_code 486 = .ok (.aload_n 0, 1) := by decide +kernel
theorem dt_487 : decode prog_14_method_2_code 487 = .ok (.getfield 34, 3) := by decide +kernel
theorem dt_490 : decode prog_14_method_2_code 490 = .ok (.iconst 1, 1) := by decide +kernel
theorem dt_491 : decode prog_14_method_2_code 491 = .ok (.bipush 108, 2) := by decide +kernel
theorem dt_493 : decode prog_14_method_2_code 493 = .ok (.bipush 101, 2) := by decide +kernel
theorem dt_495 : decode prog_14_method_2_code 495 = .ok (.bipush 116, 2) := by decide +kernel
theorem dt_497 : decode prog_14_method_2_code 497 = .ok (.bipush 116, 2) := by decide +kernel
theorem dt_499 : decode prog_14_method_2_code 499 = .ok (.bipush 101, 2) := by decide +kernel
theorem dt_501 : decode prog_14_method_2_code 501 = .ok (.bipush 114, 2) := by decide +kernel
theorem dt_503 : decode prog_14_method_2_code 503 = .ok (.iconst 0, 1) := by decide +kernel
theorem dt_504 : decode prog_14_method_2_code 504 = .ok (.invokestatic 188, 3) := by decide +kernel
theorem dt_507 : decode prog_14_method_2_code 507 = .ok (.lastore, 1) := by decide +kernel
theorem dt_508 : decode prog_14_method_2_code 508 = .ok (.aload_n 0, 1) := by decide +kernel
theorem dt_509 : decode prog_14_method_2_code 509 = .ok (.getfield 34, 3) := by decide +kernel
theorem dt_512 : decode prog_14_method_2_code 512 = .ok (.iconst 2, 1) := by decide +kernel
theorem dt_513 : decode prog_14_method_2_code 513 = .ok (.bipush 116, 2) := by decide +kernel
theorem dt_515 : decode prog_14_method_2_code 515 = .ok (.bipush 111, 2) := by decide +kernel
theorem dt_517 : decode prog_14_method_2_code 517 = .ok (.iconst 0, 1) := by decide +kernel
theorem dt_518 : decode prog_14_method_2_code 518 = .ok (.iconst 0, 1) := by decide +kernel
theorem dt_519 : decode prog_14_method_2_code 519 = .ok (.iconst 0, 1) := by decide +kernel
theorem dt_520 : decode prog_14_method_2_code 520 = .ok (.iconst 0, 1) := by decide +kernel
theorem dt_521 : decode prog_14_method_2_code 521 = .ok (.iconst 0, 1) := by decide +kernel
theorem dt_522 : decode prog_14_method_2_code 522 = .ok (.invokestatic 188, 3) := by decide +kernel
theorem dt_525 : decode prog_14_method_2_code 525 = .ok (.lastore, 1) := by decide +kernel
theorem dt_526 : decode prog_14_method_2_code 526 = .ok (.aload_n 0, 1) := by decide +kernel
theorem dt_527 : decode prog_14_method_2_code 527 = .ok (.getfield 34, 3) := by decide +kernel
theorem dt_530 : decode prog_14_method_2_code 530 = .ok (.iconst 3, 1) := by decide +kernel
theorem dt_531 : decode prog_14_method_2_code 531 = .ok (.bipush 108, 2) := by decide +kernel
theorem dt_533 : decode prog_14_method_2_code 533 = .ok (.bipush 97, 2) := by decide +kernel
theorem dt_535 : decode prog_14_method_2_code 535 = .ok (.bipush 119, 2) := by decide +kernel
theorem dt_537 : decode prog_14_method_2_code 537 = .ok (.iconst 0, 1) := by decide +kernel
theorem dt_538 : decode prog_14_method_2_code 538 = .ok (.iconst 0, 1) := by decide +kernel
theorem dt_539 : decode prog_14_method_2_code 539 = .ok (.iconst 0, 1) := by decide +kernel
theorem dt_540 : decode prog_14_method_2_code 540 = .ok (.iconst 0, 1) := by decide +kernel
theorem dt_541 : decode prog_14_method_2_code 541 = .ok (.invokestatic 188, 3) := by decide +kernel
theorem dt_544 : decode prog_14_method_2_code 544 = .ok (.lastore, 1) := by decide +kernel
theorem dt_545 : decode prog_14_method_2_code 545 = .ok (.aload_n 0, 1) := by decide +kernel
theorem dt_546 : decode prog_14_method_2_code 546 = .ok (.getfield 40, 3) := by decide +kernel
theorem dt_549 : decode prog_14_method_2_code 549 = .ok (.iconst 0, 1) := by decide +kernel
theorem dt_550 : decode prog_14_method_2_code 550 = .ok (.bipush 97, 2) := by decide +kernel
theorem dt_552 : decode prog_14_method_2_code 552 = .ok (.iastore, 1) := by decide +kernel
theorem dt_553 : decode prog_14_method_2_code 553 = .ok (.aload_n 0, 1) := by decide +kernel
theorem dt_554 : decode prog_14_method_2_code 554 = .ok (.iconst 0, 1) := by decide +kernel
theorem dt_555 : decode prog_14_method_2_code 555 = .ok (.bipush 7, 2) := by decide +kernel
theorem dt_557 : decode prog_14_method_2_code 557 = .ok (.invokevirtual 192, 3) := by decide +kernel
theorem dt_560 : decode prog_14_method_2_code 560 = .ok (.aload_n 0, 1) := by decide +kernel
theorem dt_561 : decode prog_14_method_2_code 561 = .ok (.invokevirtual 196, 3) := by decide +kernel
theorem dt_564 : decode prog_14_method_2_code 564 = .ok (.return_, 1) := by decide +kernel
set_option maxRecDepth 100000 in
theorem tl_w0 (σ : en_m) : en_ct z_X12_word [.inl 112, .inl 114, .inl 105, .inl 109, .inl 101, .inl 0, .inl 0] σ (fun r σ1 => r = some (.inr (.inl 8864267)) ∧ σ1 = σ) := ⟨300, some (.inr (.inl 8864267)), σ, by rfl, rfl, rfl⟩
set_option maxRecDepth 100000 in
theorem tl_w1 (σ : en_m) : en_ct z_X12_word [.inl 108, .inl 101, .inl 116, .inl 116, .inl 101, .inl 114, .inl 0] σ (fun r σ1 => r = some (.inr (.inl 175252482)) ∧ σ1 = σ) := ⟨300, some (.inr (.inl 175252482)), σ, by rfl, rfl, rfl⟩
set_option maxRecDepth 100000 in
theorem tl_w2 (σ : en_m) : en_ct z_X12_word [.inl 116, .inl 111, .inl 0, .inl 0, .inl 0, .inl 0, .inl 0] σ (fun r σ1 => r = some (.inr (.inl 555)) ∧ σ1 = σ) := ⟨300, some (.inr (.inl 555)), σ, by rfl, rfl, rfl⟩
set_option maxRecDepth 100000 in
theorem tl_w3 (σ : en_m) : en_ct z_X12_word [.inl 108, .inl 97, .inl 119, .inl 0, .inl 0, .inl 0, .inl 0] σ (fun r σ1 => r = some (.inr (.inl 8798)) ∧ σ1 = σ) := ⟨300, some (.inr (.inl 8798)), σ, by rfl, rfl, rfl⟩
def tl_a (k : Nat) : Int × Int × Int × Int × Int × Int × Int := ([(112, 114, 105, 109, 101, 0, 0), (108, 101, 116, 116, 101, 114, 0), (116, 111, 0, 0, 0, 0, 0), (108, 97, 119, 0, 0, 0, 0)] : List (Int × Int × Int × Int × Int × Int × Int)).getD k (0, 0, 0, 0, 0, 0, 0)
theorem tl_ok7 (a : Int × Int × Int × Int × Int × Int × Int) : ∀ v ∈ ([.inl a.1, .inl a.2.1, .inl a.2.2.1, .inl a.2.2.2.1, .inl a.2.2.2.2.1, .inl a.2.2.2.2.2.1, .inl a.2.2.2.2.2.2] : List en_v), en_ok v := by
  intro v hv
  simp only [List.mem_cons, List.not_mem_nil, or_false] at hv
  rcases hv with rfl | rfl | rfl | rfl | rfl | rfl | rfl <;> trivial
def tl_1 : en_m := sr cv_s r_Md_keys (up (cv_s r_Md_keys) 0 8864267)
def tl_2 : en_m := sr tl_1 r_Md_keys (up (tl_1 r_Md_keys) 1 175252482)
def tl_3 : en_m := sr tl_2 r_Md_keys (up (tl_2 r_Md_keys) 2 555)
def tl_4 : en_m := sr tl_3 r_Md_keys (up (tl_3 r_Md_keys) 3 8798)
def tl_5 : en_m := sr tl_4 r_Md_prime (up (tl_4 r_Md_prime) 0 97)
theorem tl_sOk : sOk 0 7 97 := by
  refine ⟨by omega, by omega, by decide, by omega, by omega, fun k h1 h2 => ?_⟩
  have key : ∀ k : Nat, k < 97 → 2 ≤ k → ¬ (97 : Int) % (k : Int) = 0 := by decide
  have := key k.toNat (by omega) (by omega)
  rw [Int.toNat_of_nonneg (by omega)] at this
  exact this
theorem tl_97 : R97 (fun _ => 0) := fun _ => ⟨Int.le_refl 0, (by decide : (0 : Int) < 97)⟩
theorem tl_01 : R01 (fun _ => 0) := fun _ => .inl rfl
abbrev tl_LW : Int → (Int → Int) → Prop := fun _ _ => False
theorem tl_mI {f1 f2 f3 : Int → Int} (e1 : f1 = up (tl_5 r_Md_degree) 0 7) (e2 : f2 = seg (tl_5 r_Md_powers) (9 * 0) 9 (sW 0 7)) (e3 : f3 = seg (tl_5 r_Md_starts) (9 * 0) 9 (sS 0 7)) : mI (srl tl_5 [(r_Md_degree, f1), (r_Md_powers, f2), (r_Md_starts, f3)]) 0 7 97 := by
  refine ⟨tl_sOk, .inl rfl, rfl, ?_, rfl, fun k h1 h2 => ?_, fun k h1 h2 => ?_⟩
  · show f1 0 = 7
    rw [e1]; rfl
  · show f2 (9 * 0 + k) = _
    rw [e2, seg_in (by omega)]
  · show f3 (9 * 0 + k) = _
    rw [e3, seg_in (by omega)]
theorem tl_iX {f1 f2 f3 g1 g2 g3 g4 g5 g6 g7 : Int → Int} (e1 : f1 = up (tl_5 r_Md_degree) 0 7) (e2 : f2 = seg (tl_5 r_Md_powers) (9 * 0) 9 (sW 0 7)) (e3 : f3 = seg (tl_5 r_Md_starts) (9 * 0) 9 (sS 0 7)) (h1 : mNall g6 g3 g4 g5 0 7 97 tl_LW) (h2 : (g7 0 = 1 ∧ (∀ i : Int, 0 ≤ i → i < 0 → (0 : Int) = 0 ∨ (0 : Int) = 2) ∧ ∀ d, 0 ≤ d → d ≤ 7 → mNd g6 g3 g4 g5 1 0 7 97 (dLW 0 7 97 tl_LW) d) ∨ (g7 0 = 0 ∧ ¬ ∀ i : Int, 0 ≤ i → i < 0 → (0 : Int) = 0 ∨ (0 : Int) = 2)) (h3 : R97 g2) : iX (srl (srl tl_5 [(r_Md_degree, f1), (r_Md_powers, f2), (r_Md_starts, f3)]) [(r_Md_spare, g1), (r_Md_row, g2), (r_Md_rows, g3), (r_Md_leads, g4), (r_Md_sizes, g5), (r_Md_rowStart, g6), (r_Md_quadratic, g7)]) := by
  have hO := tl_sOk
  have hI := tl_mI e1 e2 e3
  have hsW : ∀ k : Nat, k < 8 → (cv_s r_Shape0_many) (k : Int) = sW 0 7 (k : Int) := by decide +kernel
  have hsS : ∀ k : Nat, k < 9 → (cv_s r_Shape0_start) (k : Int) = sS 0 7 (k : Int) := by decide +kernel
  have hS8 : sS 0 7 (7 + 1) = 1 := by decide +kernel
  have e32 : ∀ v : Int, v = 0 → i32 v := fun v h => by subst h; exact ⟨by decide, by decide⟩
  refine ⟨0, 7, 97, tl_LW, ⟨?_, ?_, ?_, ?_, ?_, ?_, ?_, ?_, ?_, ?_, ?_, ?_, ?_, ?_, ?_, ?_, ?_, ?_, ?_⟩, ⟨?_, ?_, ?_, ?_, ?_, ?_, ?_, ?_, ?_, ?_, ?_, ?_, ?_, ?_, ?_⟩, ⟨?_, ?_, ?_, ?_, ?_, ?_, ?_, ?_, ?_, ?_, ?_, ?_, ?_, ?_, ?_, ?_, ?_, ?_, ?_, ?_, ?_⟩, ⟨?_, ?_, ?_, ?_, ?_, ?_, ?_, ?_⟩⟩
  -- iC
  · refine ⟨hO, rfl, rfl, rfl, fun k a b => ?_, fun k a b => ?_, fun x a b => ?_⟩
    · have := hsW k.toNat (by omega)
      rw [Int.toNat_of_nonneg a] at this
      exact this
    · have := hsS k.toNat (by omega)
      rw [Int.toNat_of_nonneg a] at this
      exact this
    · rw [hS8] at b
      have : x = 0 := by omega
      subst this
      show (0 : Int) = sL 0 7 0
      decide +kernel
  · exact ⟨Int.le_refl 0, (show (0 : Int) ≤ 2000 by decide)⟩
  · rfl
  · rfl
  · exact tl_97
  · exact tl_97
  · exact tl_97
  · exact tl_97
  · exact tl_97
  · exact ⟨⟨Int.le_refl 0, (show (0 : Int) ≤ 16 by decide)⟩, tl_97, fun i => e32 _ rfl⟩
  · show (0 : Int) ≤ 8
    decide
  · exact tl_97
  · exact tl_97
  · exact tl_97
  · exact tl_97
  · refine ⟨⟨(show (-1 : Int) ≤ -1 by decide), (show (-1 : Int) ≤ 7 by decide)⟩, tl_97, tl_01, tl_97, rfl, fun d a b => ?_⟩
    have b : d ≤ -1 := b
    omega
  · exact ⟨fun i a b => absurd a (Int.not_le.mpr b), fun d r h => h.elim⟩
  · exact .inl ⟨rfl, rfl⟩
  · exact .inl ⟨rfl, rfl⟩
  -- iK
  · exact ⟨tl_97, tl_01, tl_97, rfl, tl_97, tl_97, fun i => e32 _ rfl⟩
  · exact fun h => absurd (show (0 : Int) = 1 from h) (by decide)
  · exact .inl rfl
  · exact fun j => ⟨by show (-10000 : Int) ≤ 0; decide, by show (0 : Int) ≤ 10000; decide⟩
  · exact tl_97
  · exact tl_01
  · exact tl_97
  · rfl
  · exact tl_01
  · exact ⟨(show (-2147483648 : Int) ≤ -9 by decide), (show (-9 : Int) ≤ 2147483647 by decide)⟩
  · exact .inl rfl
  · exact ⟨(show (-2147483648 : Int) ≤ -9 by decide), (show (-9 : Int) ≤ 2147483647 by decide)⟩
  · exact .inl rfl
  · exact tl_01
  · exact tl_97
  -- iM
  · exact ⟨hO, .inl rfl, rfl, hI.2.2.2.1, rfl, hI.2.2.2.2.2.1, hI.2.2.2.2.2.2⟩
  · exact fun x => ⟨by show (-128 : Int) ≤ 0; decide, by show (0 : Int) ≤ 127; decide⟩
  · exact ⟨rfl, rfl, rfl, rfl⟩
  · exact tl_97
  · exact tl_97
  · exact tl_97
  · exact h3
  · exact tl_97
  · exact tl_97
  · exact tl_97
  · exact tl_97
  · exact tl_97
  · exact tl_97
  · exact tl_97
  · exact tl_97
  · exact fun i => e32 _ rfl
  · exact tl_01
  · exact tl_01
  · exact tl_01
  · exact h1
  · rcases h2 with h2 | h2
    · exact .inl ⟨h2.1, h2.2.1, h2.2.2⟩
    · exact .inr ⟨h2.1, h2.2⟩
  -- iB
  · rfl
  · rfl
  · rfl
  · exact ⟨fun e x a b => rfl, fun e x a b => by show (0 : Int) < 97; decide, fun e x a b d => rfl⟩
  · exact fun s a b => ⟨rfl, fun q => absurd rfl q⟩
  · exact fun j a b => absurd a (Int.not_le.mpr b)
  · rfl
  · exact fun i a b => absurd a (Int.not_le.mpr b)
theorem tl_fb (sz : Nat) (cA : Nat → ClassId) (D : va_G) : FrameBlind (va_Pc [.ref (sz + 241)] (fun U => U.heap.size = sz + ci_11.length ∧ va_P D classes (ci_W sz cA ci_11) U.heap ∧ va_K D classes (en_tys cA) U ∧ ci_Q U ∧ en_X (fun q => sz ≤ q) U U.heap)) := by
  intro a U g mk h
  obtain ⟨h0, h1, h2, h3, h4, h5⟩ := h
  exact ⟨h0, h1, h2, va_K.moved (u := U) (U := U.calling g mk a) (Vm.Alike.refl U.vm) h3, ci_Q_same (u := U) (U := U.calling g mk a) rfl h4, en_X_same (u := U) (U := U.calling g mk a) rfl h5⟩
set_option maxHeartbeats 4000000 in
set_option maxRecDepth 100000 in
theorem tl_init {l : Launch} (OK : en_OK) (WK : en_WK l) : ∃ σ7 : en_m, iX σ7 ∧ ∀ (sz : Nat) (cA : Nat → ClassId) (D : va_G), Met l (ci_y 12) (ci_ws 12) (ci_rm 12) (va_Pc [.ref (sz + 241)] (fun U => U.heap.size = sz + ci_11.length ∧ va_P D classes (ci_W sz cA ci_11) U.heap ∧ va_K D classes (en_tys cA) U ∧ ci_Q U ∧ en_X (fun q => sz ≤ q) U U.heap)) (fun _ st oc t => (oc = .returned none ∧ va_P D classes (en_W (cv_ad sz) cA σ7) t.heap) ∧ va_F (fun q => sz ≤ q) st t) (ci_ce 12) (ci_sl 12) (fun q => sz ≤ q) := by
  obtain ⟨r0, τ0, ⟨e00, e01⟩, M0⟩ := en_meth OK WK (a := z_X12_word) (by decide) (tl_ok7 (tl_a 0)) (Nat.le_of_ble_eq_true rfl) (tl_w0 cv_s)
  subst e00 e01
  obtain ⟨r1, τ1, ⟨e10, e11⟩, M1⟩ := en_meth OK WK (a := z_X12_word) (by decide) (tl_ok7 (tl_a 1)) (Nat.le_of_ble_eq_true rfl) (tl_w1 tl_1)
  subst e10 e11
  obtain ⟨r2, τ2, ⟨e20, e21⟩, M2⟩ := en_meth OK WK (a := z_X12_word) (by decide) (tl_ok7 (tl_a 2)) (Nat.le_of_ble_eq_true rfl) (tl_w2 tl_2)
  subst e20 e21
  obtain ⟨r3, τ3, ⟨e30, e31⟩, M3⟩ := en_meth OK WK (a := z_X12_word) (by decide) (tl_ok7 (tl_a 3)) (Nat.le_of_ble_eq_true rfl) (tl_w3 tl_3)
  subst e30 e31
  obtain ⟨r5, σ6, ⟨f1, f2, f3, e50, e51, e52, e53, e54⟩, M5⟩ := en_meth OK WK (a := z_X12_measures) (by decide) (lok_2 mem_Md (y1 := 0) (y2 := 7)) (Nat.le_of_ble_eq_true rfl) (ct_X12_measures tl_5 0 97 0 7 (.inl rfl) tl_sOk rfl)
  subst e50 e51
  obtain ⟨r6, σ7, ⟨g1, g2, g3, g4, g5, g6, g7, e60, e61, e62, e63, e64⟩, M6⟩ := en_meth OK WK (a := z_X12_nothing) (by decide) (lok_0 mem_Md) (Nat.le_of_ble_eq_true rfl) (ct_X12_nothing (srl tl_5 [(r_Md_degree, f1), (r_Md_powers, f2), (r_Md_starts, f3)]) 0 7 97 tl_LW (tl_mI e52 e53 e54) tl_97 tl_97 tl_01 ⟨Int.le_refl 0, (show (0 : Int) ≤ 8 by decide)⟩ (fun _ => ⟨(show (-2147483648 : Int) ≤ 0 by decide), (show (0 : Int) ≤ 2147483647 by decide)⟩) (fun i h1 h2 => absurd h1 (Int.not_le.mpr h2)) ⟨fun i h1 h2 => absurd h1 (Int.not_le.mpr h2), fun d r h => h.elim⟩)
  subst e60 e61
  refine ⟨_, tl_iX (g1 := g1) e52 e53 e54 e62 e63 e64, fun sz cA D => ?_⟩
  obtain ⟨-, -, hpn, -, -, hnm, hret⟩ := ci_mchk_of ci_ok (a := 12) (by decide)
  refine Met.ofW (cc := ci_B 12) (maxL := ci_mL 12) (ret := none) hpn rfl ?_
  intro p e s m args below meth c s₁ B hml hv
  obtain ⟨rfl, hz, hP, hK, hQ, hX⟩ := hv
  have hts0 := atoms_spec (ws := ci_ws 12) B.pre
  have hr := B.returns
  have hlocks := B.notSynchronized
  have hx := B.exec
  have hb : c.code = prog_14_method_2_code := B.bytes
  have hown : s.vm.findClass "WordAlgebraModel" = some m.cls := findClass_of_methodNamed B.named
  have hts : ∀ w ∈ en_tb, w.before ([.ref (sz + 241)] : List Value).toArray s = true := fun w hw => hts0 w (List.mem_cons_of_mem _ hw)
  obtain ⟨hl1, hl2, hl3, hl4, hl5⟩ := ci_l11
  rw [lg_entry_eq]
  refine ci_cs (a := ci_11.length - ci_11.length) (b := ci_sz ci_11 - ci_sz ci_11) (by omega) (by omega) ?_
  have hle := ci_lh_ent (ad := ci_ad sz) (n := ci_mL 12) (as := [.inr (.inr (241, 0))]) (Nat.le_of_ble_eq_true rfl)
  refine ci_all ci_ok l 3000 p e s m _ below meth c (headSpec (ci_ws 12) (ci_rm 12)).room 12 sz cA D _ _ [] s.heap [] ci_11 _ [] ci_12 0 ci_11.length (ci_sz ci_11) 297 (ci_sz ci_11 + 333597) _ (by decide) ⟨B.exec, B.bytes, hml, hown, hts, fun h13 => (name_of_methodNamed B.named B.method).1.trans (hnm (by decide)), rfl, rfl⟩ hK hQ hz (by rw [hl2]; exact Nat.le_of_ble_eq_true rfl) (Nat.le_refl _) ⟨⟨Nat.le_refl _, Nat.le_refl _⟩, by rw [hl2]; exact Nat.le_of_ble_eq_true rfl, Nat.le_add_right _ _⟩ ⟨hz, hP, va_S.rf, hle⟩ ci_r12 (fun H1 locs1 lsA1 S1 => ?_)
  obtain ⟨z1, hP1, hS1, hlh⟩ := S1
  refine ci_cs (a := 55) (b := 333597) (by rw [hl4, hl2]) (by omega) ?_
  have hl : lv_has lsA1 1 [(0, .ref (cv_ad sz r_Md 0))] := en_lh_has hlh
  have hP1 := cv_P hP1
  have hDD := cv_D sz cA
  have hsz : sz ≤ s.heap.size := by omega
  have hrm : (55 : Nat) ≤ (headSpec (ci_ws 12) (ci_rm 12)).room.cells ∧ (333597 : Nat) ≤ (headSpec (ci_ws 12) (ci_rm 12)).room.slots := ⟨Nat.le_refl _, Nat.le_refl _⟩
  refine lv_aload_n hx hb dt_465 rfl (lv_at hl 0 rfl) ?_
  refine tl_get (own := "WordAlgebraModel") (b := 9) (q := (RX12, TX12, 74)) hx hb hown hts hK hP1 mem_Md rfl rfl (by decide) rfl (en_tb_in 1703 (by decide +kernel) (by decide +kernel)) dt_466 ?_
  refine lv_iconst (v := nI 0) hx hb dt_469 (by decide) ?_
  refine lv_bipush (v := Int32.ofInt 112) hx hb dt_470 (by decide) ?_
  refine lv_bipush (v := Int32.ofInt 114) hx hb dt_472 (by decide) ?_
  refine lv_bipush (v := Int32.ofInt 105) hx hb dt_474 (by decide) ?_
  refine lv_bipush (v := Int32.ofInt 109) hx hb dt_476 (by decide) ?_
  refine lv_bipush (v := Int32.ofInt 101) hx hb dt_478 (by decide) ?_
  refine lv_iconst (v := Int32.ofInt 0) hx hb dt_480 (by decide) ?_
  refine lv_iconst (v := Int32.ofInt 0) hx hb dt_481 (by decide) ?_
  refine tl_callS (own := "WordAlgebraModel") (rest := [.int (nI 0), .ref (cv_ad sz r_Md_keys 0)]) OK (by decide) hx hb hml hown hts hK hX hsz hP1 (hDD _) hS1 hl.1 M0 rfl rfl (en_tb_in 1631 (by decide +kernel) (by decide +kernel)) ⟨Nat.le_of_ble_eq_true rfl, Nat.le_of_ble_eq_true rfl⟩ (Nat.le_of_ble_eq_true rfl) dt_482 hrm rfl (fun H2 locs2 hP2 hS2 => ?_)
  refine tl_last (x := 8864267) (j := 0) hx hb hK hP2 (hDD _) hS2 (by decide) rfl (by decide) (by decide) dt_485 (fun H3 locs3 hP3 hS3 => ?_)
  refine lv_aload_n hx hb dt_486 rfl (lv_at hl 0 rfl) ?_
  refine tl_get (own := "WordAlgebraModel") (b := 9) (q := (RX12, TX12, 74)) hx hb hown hts hK hP3 mem_Md rfl rfl (by decide) rfl (en_tb_in 1703 (by decide +kernel) (by decide +kernel)) dt_487 ?_
  refine lv_iconst (v := nI 1) hx hb dt_490 (by decide) ?_
  refine lv_bipush (v := Int32.ofInt 108) hx hb dt_491 (by decide) ?_
  refine lv_bipush (v := Int32.ofInt 101) hx hb dt_493 (by decide) ?_
  refine lv_bipush (v := Int32.ofInt 116) hx hb dt_495 (by decide) ?_
  refine lv_bipush (v := Int32.ofInt 116) hx hb dt_497 (by decide) ?_
  refine lv_bipush (v := Int32.ofInt 101) hx hb dt_499 (by decide) ?_
  refine lv_bipush (v := Int32.ofInt 114) hx hb dt_501 (by decide) ?_
  refine lv_iconst (v := Int32.ofInt 0) hx hb dt_503 (by decide) ?_
  refine tl_callS (own := "WordAlgebraModel") (rest := [.int (nI 1), .ref (cv_ad sz r_Md_keys 0)]) OK (by decide) hx hb hml hown hts hK hX hsz hP3 (hDD _) hS3 hl.1 M1 rfl rfl (en_tb_in 1631 (by decide +kernel) (by decide +kernel)) ⟨Nat.le_of_ble_eq_true rfl, Nat.le_of_ble_eq_true rfl⟩ (Nat.le_of_ble_eq_true rfl) dt_504 hrm rfl (fun H4 locs4 hP4 hS4 => ?_)
  refine tl_last (x := 175252482) (j := 1) hx hb hK hP4 (hDD _) hS4 (by decide) rfl (by decide) (by decide) dt_507 (fun H5 locs5 hP5 hS5 => ?_)
  refine lv_aload_n hx hb dt_508 rfl (lv_at hl 0 rfl) ?_
  refine tl_get (own := "WordAlgebraModel") (b := 9) (q := (RX12, TX12, 74)) hx hb hown hts hK hP5 mem_Md rfl rfl (by decide) rfl (en_tb_in 1703 (by decide +kernel) (by decide +kernel)) dt_509 ?_
  refine lv_iconst (v := nI 2) hx hb dt_512 (by decide) ?_
  refine lv_bipush (v := Int32.ofInt 116) hx hb dt_513 (by decide) ?_
  refine lv_bipush (v := Int32.ofInt 111) hx hb dt_515 (by decide) ?_
  refine lv_iconst (v := Int32.ofInt 0) hx hb dt_517 (by decide) ?_
  refine lv_iconst (v := Int32.ofInt 0) hx hb dt_518 (by decide) ?_
  refine lv_iconst (v := Int32.ofInt 0) hx hb dt_519 (by decide) ?_
  refine lv_iconst (v := Int32.ofInt 0) hx hb dt_520 (by decide) ?_
  refine lv_iconst (v := Int32.ofInt 0) hx hb dt_521 (by decide) ?_
  refine tl_callS (own := "WordAlgebraModel") (rest := [.int (nI 2), .ref (cv_ad sz r_Md_keys 0)]) OK (by decide) hx hb hml hown hts hK hX hsz hP5 (hDD _) hS5 hl.1 M2 rfl rfl (en_tb_in 1631 (by decide +kernel) (by decide +kernel)) ⟨Nat.le_of_ble_eq_true rfl, Nat.le_of_ble_eq_true rfl⟩ (Nat.le_of_ble_eq_true rfl) dt_522 hrm rfl (fun H6 locs6 hP6 hS6 => ?_)
  refine tl_last (x := 555) (j := 2) hx hb hK hP6 (hDD _) hS6 (by decide) rfl (by decide) (by decide) dt_525 (fun H7 locs7 hP7 hS7 => ?_)
  refine lv_aload_n hx hb dt_526 rfl (lv_at hl 0 rfl) ?_
  refine tl_get (own := "WordAlgebraModel") (b := 9) (q := (RX12, TX12, 74)) hx hb hown hts hK hP7 mem_Md rfl rfl (by decide) rfl (en_tb_in 1703 (by decide +kernel) (by decide +kernel)) dt_527 ?_
  refine lv_iconst (v := nI 3) hx hb dt_530 (by decide) ?_
  refine lv_bipush (v := Int32.ofInt 108) hx hb dt_531 (by decide) ?_
  refine lv_bipush (v := Int32.ofInt 97) hx hb dt_533 (by decide) ?_
  refine lv_bipush (v := Int32.ofInt 119) hx hb dt_535 (by decide) ?_
  refine lv_iconst (v := Int32.ofInt 0) hx hb dt_537 (by decide) ?_
  refine lv_iconst (v := Int32.ofInt 0) hx hb dt_538 (by decide) ?_
  refine lv_iconst (v := Int32.ofInt 0) hx hb dt_539 (by decide) ?_
  refine lv_iconst (v := Int32.ofInt 0) hx hb dt_540 (by decide) ?_
  refine tl_callS (own := "WordAlgebraModel") (rest := [.int (nI 3), .ref (cv_ad sz r_Md_keys 0)]) OK (by decide) hx hb hml hown hts hK hX hsz hP7 (hDD _) hS7 hl.1 M3 rfl rfl (en_tb_in 1631 (by decide +kernel) (by decide +kernel)) ⟨Nat.le_of_ble_eq_true rfl, Nat.le_of_ble_eq_true rfl⟩ (Nat.le_of_ble_eq_true rfl) dt_541 hrm rfl (fun H8 locs8 hP8 hS8 => ?_)
  refine tl_last (x := 8798) (j := 3) hx hb hK hP8 (hDD _) hS8 (by decide) rfl (by decide) (by decide) dt_544 (fun H9 locs9 hP9 hS9 => ?_)
  refine lv_aload_n hx hb dt_545 rfl (lv_at hl 0 rfl) ?_
  refine tl_get (own := "WordAlgebraModel") (b := 20) (q := (RX12, TX12, 74)) hx hb hown hts hK hP9 mem_Md rfl rfl (by decide) rfl (en_tb_in 1714 (by decide +kernel) (by decide +kernel)) dt_546 ?_
  refine lv_iconst (v := nI 0) hx hb dt_549 (by decide) ?_
  refine lv_bipush (v := Int32.ofInt 97) hx hb dt_550 (by decide) ?_
  refine tl_iast (x := 97) (j := 0) hx hb hK hP9 (hDD _) hS9 (by decide) rfl (by decide) (by decide) dt_552 (fun H10 locs10 hP10 hS10 => ?_)
  refine lv_aload_n hx hb dt_553 rfl (lv_at hl 0 rfl) ?_
  refine lv_iconst (v := Int32.ofInt 0) hx hb dt_554 (by decide) ?_
  refine lv_bipush (v := Int32.ofInt 7) hx hb dt_555 (by decide) ?_
  refine tl_callV (own := "WordAlgebraModel") (σ := tl_5) (q := (RX12, TX12, 74)) (rest := []) OK (by decide) hx hb hml hown hts hK hX hsz hP10 (hDD _) hS10 hl.1 M5 mem_Md rfl rfl rfl rfl rfl (en_tb_in 1638 (by decide +kernel) (by decide +kernel)) ⟨Nat.le_of_ble_eq_true rfl, Nat.le_of_ble_eq_true rfl⟩ (Nat.le_of_ble_eq_true rfl) dt_557 hrm rfl (fun H11 locs11 hP11 hS11 => ?_)
  refine lv_aload_n hx hb dt_560 rfl (lv_at hl 0 rfl) ?_
  refine tl_callV (own := "WordAlgebraModel") (q := (RX12, TX12, 74)) (rest := []) OK (by decide) hx hb hml hown hts hK hX hsz hP11 (hDD _) hS11 hl.1 M6 mem_Md rfl rfl rfl rfl rfl (en_tb_in 1642 (by decide +kernel) (by decide +kernel)) ⟨Nat.le_of_ble_eq_true rfl, Nat.le_of_ble_eq_true rfl⟩ (Nat.le_of_ble_eq_true rfl) dt_561 hrm rfl (fun H12 locs12 hP12 hS12 => ?_)
  exact W.vret hx hb hr (fun t h9 hW => ⟨⟨rfl, by rw [h9]; exact hP12⟩, hS12.F h9⟩) hS12.2.2 dt_564
