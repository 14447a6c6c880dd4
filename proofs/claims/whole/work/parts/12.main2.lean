/-! the engine's run is the machine's walk: by the steps of the run -/
section MAIN
variable {l : Launch}
/-- what a run of n steps gives the machine, for any method -/
def en_Rn (l : Launch) (n : Nat) : Prop := ∀ (p : Program) (e : Env) (s : State) (m : MethodId) (args : Array Value) (below : List Frame) (meth : Method) (c : Code) (R : Room) (z : Nat) (ad : Nat → Int → Nat) (cA : Nat → ClassId) (D : va_G) (lsA : Array Slot) (ls : en_l) (st : List en_v) (H : Heap) (locs : List Loc) (σ : en_m) (r : Option en_v) (σ' : en_m) (pc : Nat), z < 332 → en_E z p s m args meth c R → va_K D classes (en_tys cA) s → en_X (en_A ad s.heap.size) s s.heap → en_S ad cA D (en_A ad s.heap.size) s.heap (en_mL z) lsA ls st H locs σ → en_ev n (en_T z) pc ls st σ = some (r, σ') → W p l e R s m args below meth c H locs 0 0 (MQ below (en_Qc ad cA D r σ' s.heap.size) args s 0 0 (en_A ad s.heap.size)) (F0 m pc lsA (st.map (en_rv ad)))
theorem en_mchk_of (OK : en_OK) {a : Nat} (h : a < 332) : (Cond.code (en_y a) (en_B a) (en_mL a) (en_rt a) ∈ en_tb ∧ Cond.initialized (en_y a).cls ∈ en_tb) ∧ ((en_y a).cls ≠ "java/lang/invoke/MethodHandle" ∧ (en_y a).cls ≠ "java/lang/invoke/VarHandle") ∧ plainName (en_y a).cls = true ∧ (en_is a = true → Cond.static (en_y a) ∈ en_tb ∧ (parseMethodDescriptor (en_y a).desc).map (fun d => d.parameters.length) = some (en_na a)) ∧ (en_is a = false → Cond.instanceMethod (en_y a) ∈ en_tb ∧ Cond.selects (en_y a).cls (en_y a) (en_y a) ∈ en_tb ∧ 0 < en_na a ∧ (parseMethodDescriptor (en_y a).desc).map (fun d => d.parameters.length) = some (en_na a - 1)) := by
  have hm := OK.2 a h
  unfold en_mchk at hm
  simp only [Bool.and_eq_true, decide_eq_true_eq] at hm
  obtain ⟨⟨⟨⟨⟨⟨h1, h2⟩, h3⟩, h4⟩, h5⟩, h6⟩, h7⟩ := hm
  refine ⟨⟨en_wd_in h1, en_wd_in h3⟩, ⟨h4, h5⟩, h7, fun e => ?_, fun e => ?_⟩
  · rw [e] at h2 h6
    exact ⟨en_wd_in h2, h6⟩
  · rw [e] at h2 h6
    simp only [cond_false, Bool.and_eq_true] at h2
    exact ⟨en_wd_in h2.1.1, en_wd_in h2.1.2, Nat.le_of_ble_eq_true h2.2, h6⟩
theorem en_good (OK : en_OK) {a : Nat} (h : a < 332) : GoodIn en_tb (en_ws a) := by
  have key : ∀ w ∈ en_tb, w ∈ en_tb ∧ ((w.onTables && w.keeps) = true ∨ ∃ ty, w = .arrayClass ty) := fun w hw => ⟨hw, good_of_word (List.mem_filter.mp hw).2⟩
  intro w hw
  rcases List.mem_cons.mp hw with e | hw
  · rw [e]; exact key _ (en_mchk_of OK h).1.1
  · exact key w hw
/-- a run of a method is a contract -/
theorem en_met (OK : en_OK) {n : Nat} (IH : en_Rn l n) {a : Nat} (ha : a < 332) {ad : Nat → Int → Nat} {cA : Nat → ClassId} {D : va_G} {as : List en_v} {σ σ' : en_m} {r : Option en_v} (sz : Nat) (hok : ∀ v ∈ as, en_ok v) (hsum : en_sum as ≤ en_mL a) (hev : en_ev n (en_T a) 0 (en_ent a as) [] σ = some (r, σ')) : Met l (en_y a) (en_ws a) (en_rm a) (en_Pc ad cA D as σ sz) (en_Qc ad cA D r σ' sz) 0 0 (en_A ad sz) := by
  refine Met.ofW (cc := en_B a) (maxL := en_mL a) (ret := en_rt a) (en_mchk_of OK ha).2.2.1 rfl ?_
  intro p e s m args below meth c s₁ B hml hv
  obtain ⟨rfl, hsz, hP, hK, hD, hX⟩ := hv
  subst hsz
  have hts := atoms_spec (ws := en_ws a) B.pre
  rw [lg_entry_eq]
  exact IH p e s m _ below meth c _ a ad cA D _ _ [] s.heap [] σ r σ' 0 ha ⟨B.exec, B.bytes, hml, findClass_of_methodNamed B.named, fun w hw => hts w (List.mem_cons_of_mem _ hw), B.returns, B.notSynchronized, rfl, rfl⟩ hK hX
    ⟨hP, en_D_of _ hD, va_S.rf, en_lh_ent hsum, en_lok_ent hok, fun v hv => by cases hv⟩ hev
theorem en_cc_of {z a b j idx : Nat} {st : Bool} (h : en_cc z a b j idx st = true) : Cond.methodLink (en_y z).cls idx (en_y a) ∈ en_tb ∧ b = en_na a ∧ en_fr a + 1 ≤ en_fr z ∧ 8 + (en_mL a + 11) + en_lo a ≤ en_lo z ∧ en_is a = st ∧ a < 332 := by
  unfold en_cc at h
  simp only [Bool.and_eq_true, beq_iff_eq] at h
  obtain ⟨⟨⟨⟨⟨h1, h2⟩, h3⟩, h4⟩, h5⟩, h6⟩ := h
  exact ⟨en_wd_in h1, Nat.eq_of_beq_eq_true h2, Nat.le_of_ble_eq_true h3, Nat.le_of_ble_eq_true h4, h5, Nat.le_of_ble_eq_true h6⟩
/-- behind a call: what the rest of the caller's walk needs -/
theorem en_behind {p : Program} {e : Env} {s : State} {m : MethodId} {args : Array Value} {below : List Frame} {meth : Method} {c : Code} {R : Room} {z a b j idx pc : Nat} {ad : Nat → Int → Nat} {cA : Nat → ClassId} {D : va_G} {lsA : Array Slot} {ls : en_l} {st as rr : List en_v} {H : Heap} {locs : List Loc} {σ σ1 : en_m} {v : Option en_v} {Q : State → Prop} {vs : Bool}
    (OK : en_OK) (ha : a < 332) (E : en_E z p s m args meth c R) (hK : va_K D classes (en_tys cA) s) (hX : en_X (en_A ad s.heap.size) s s.heap) (S : en_S ad cA D (en_A ad s.heap.size) s.heap (en_mL z) lsA ls st H locs σ)
    (hM : ∀ sz, Met l (en_y a) (en_ws a) (en_rm a) (en_Pc ad cA D as σ sz) (en_Qc ad cA D v σ1 sz) 0 0 (en_A ad sz)) (hcc : en_cc z a b j idx vs = true) (hpop : en_pop b st [] = some (as, rr)) (h8 : en_sum rr ≤ 8)
    (hd : decode (en_B z) pc = .ok (bif vs then .invokestatic idx else .invokevirtual idx, 3)) (hrec : vs = false → ∃ (k : Nat) (o : Int) (ci : Nat) (fs : List (Nat × Nat × Nat)) (as' : List en_v) (q : vw_C), as = .inr (.inr (k, o)) :: as' ∧ en_K k = .inl (ci, fs) ∧ classes[ci]? = some q ∧ q.1 = (en_y a).cls)
    (K : ∀ (H1 : Heap) (locs1 : List Loc), va_P D classes (en_W ad cA σ1) H1 → va_S (en_A ad s.heap.size) s.heap H1 locs1 → W p l e R s m args below meth c H1 locs1 0 0 Q (F0 m (pc + 3) lsA ((v.map (en_rv ad)).toList ++ rr.map (en_rv ad)))) : W p l e R s m args below meth c H locs 0 0 Q (F0 m pc lsA (st.map (en_rv ad))) := by
  obtain ⟨hx, hb, hml, hown, hts, hr, hlk, hfr, hlo⟩ := E
  obtain ⟨hP, hD, hS, hl, hlok, hsok⟩ := S
  obtain ⟨⟨w1, w2⟩, w3, -, wS, wV⟩ := en_mchk_of OK ha
  obtain ⟨c1, c2, c3, c4, c5, -⟩ := en_cc_of hcc
  obtain ⟨L, hL, hst, has⟩ := en_pop_eq hpop
  rw [List.append_nil] at has
  have hXH : en_X (en_A ad H.size) s H := en_X_narrow (en_X_kept hX (fun q h1 h2 => hS.2.1 q h1 h2)) (fun q hq => by
    rcases hq with hq | hq
    · exact Or.inl hq
    · exact Or.inr (Nat.le_trans hS.1 hq))
  have hpre : ∀ U : State, U.heap = H → s.WarmedH U.vm → en_Pc ad cA D as σ H.size (as.map (en_rv ad)).toArray U := fun U hU hW => ⟨rfl, by rw [hU], by rw [hU]; exact hP, va_K.moved hW.alike hK, hD.weaken (fun _ _ _ _ => trivial), by rw [hU]; exact en_X_warm hW hXH⟩
  have hAA : ∀ q, en_A ad H.size q → en_A ad s.heap.size q := fun q hq => by
    rcases hq with hq | hq
    · exact Or.inl hq
    · exact Or.inr (Nat.le_trans hS.1 hq)
  have hroom : (en_rm a).frames + 1 ≤ R.frames ∧ 8 + (en_mL a + 11) + (en_rm a).locals ≤ R.locals := by rw [hfr, hlo]; exact ⟨c3, c4⟩
  have hini : (Cond.initialized (en_y a).cls).before args s = true := hts _ w2
  have hlink : (Cond.methodLink (en_y z).cls idx (en_y a)).before args s = true := hts _ c1
  have hcat : ((rr.map (en_rv ad)).map fun v => v.category).sum ≤ 8 := by rw [en_sum_map]; exact h8
  have hfix : CallFix p m c (en_B z) (en_mL z) s args en_tb (en_y z).cls := ⟨hx, hb, hml, hown, hts⟩
  cases vs with
  | true =>
    obtain ⟨s1, s2⟩ := wS c5
    have cb : CallB R s args (en_y z).cls idx (en_y a) (en_B a) (en_mL a) (en_rt a) (en_ws a) (en_rm a) 0 0 (en_na a) := callB_of (en_na a) hts (en_good OK ha) rfl rfl rfl hini hlink ⟨w3.1, w3.2, s2⟩ hroom
    have hlen : (as.map (en_rv ad)).length = en_na a := by rw [List.length_map, has, List.length_reverse, hL, c2]
    have hstk : (F0 m pc lsA (st.map (en_rv ad))).stack = (as.map (en_rv ad)).reverse ++ rr.map (en_rv ad) := by
      show st.map (en_rv ad) = _
      rw [hst, has, List.map_append, ← List.map_reverse, List.reverse_reverse]
    exact en_callW (va_runS hfix (hM H.size) ⟨cb, hts _ s1⟩ ⟨en_fb ad cA D as σ H.size, hpre⟩ rfl hlen hl.1 hstk (lv_room hcat) hd ⟨Nat.zero_le _, Nat.zero_le _⟩) hS (fun q _ h => hAA q h) hAA K
  | false =>
    obtain ⟨k, o, ci, fs, as', q, e1, e2, e3, e4⟩ := hrec rfl
    obtain ⟨v1, v2, v3, v4⟩ := wV c5
    subst e1
    have cw : CallW R s args (en_y z).cls (en_y a).cls idx (en_y a) (en_B a) (en_mL a) (en_rt a) (en_ws a) (en_rm a) 0 0 (en_na a - 1) := ⟨callB_of (en_na a - 1) hts (en_good OK ha) rfl rfl rfl hini hlink ⟨w3.1, w3.2, v4⟩ hroom, hts _ v1, hts _ v2⟩
    have hlen : (as'.map (en_rv ad)).length = en_na a - 1 := by
      rw [List.length_map]
      have h1 : (Sum.inr (Sum.inr (k, o)) :: as' : List en_v).length = b := by rw [has, List.length_reverse, hL]
      rw [List.length_cons] at h1
      omega
    have hstk : (F0 m pc lsA (st.map (en_rv ad))).stack = (as'.map (en_rv ad)).reverse ++ .ref (ad k o) :: rr.map (en_rv ad) := by
      show st.map (en_rv ad) = _
      have h1 : L = as'.reverse ++ [Sum.inr (Sum.inr (k, o))] := by rw [← List.reverse_cons, has, List.reverse_reverse]
      rw [hst, h1, List.map_append, List.map_append, ← List.map_reverse, List.append_assoc]
      rfl
    have hmem : (k, o) ∈ en_C := hsok (.inr (.inr (k, o))) (by rw [hst]; exact List.mem_append_left _ (by rw [← List.mem_reverse, ← has]; exact List.mem_cons_self))
    obtain ⟨q0, -, hw0⟩ := en_W_at (ad := ad) (cA := cA) (σ := σ) hmem
    have hen : en_en ad cA σ (k, o) = .inr (ci, fs.map (en_fv ad σ)) := by unfold en_en; dsimp only; rw [e2]
    rw [hen] at hw0
    have hrcv := va_recv hK hP (ci := ci) (q0 := q0) e3 hw0
    rw [e4] at hrcv
    exact en_callW (va_runV hfix (hM H.size) cw ⟨en_fb ad cA D _ σ H.size, hrcv, hpre⟩ rfl hlen hl.1 hstk (lv_room hcat) hd ⟨Nat.zero_le _, Nat.zero_le _⟩) hS (fun q _ h => hAA q h) hAA K
end MAIN
