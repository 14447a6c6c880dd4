/-! every run of the engine is a walk of the machine -/
section MAIN3
variable {l : Launch}
theorem en_cl_eq {f : en_f} {q : en_q} {c : en_c} {pc : Nat} {ls : en_l} {σ : en_m} {o : Option (List en_v × List en_v)} {x : Option en_v × en_m} (h : en_cl f q c pc ls σ o = some x) : ∃ as r : List en_v, o = some (as, r) ∧ en_sum r ≤ 8 ∧ en_sum as ≤ en_mL q.2.2.2.1 ∧ ((∃ v, en_bi q.2.2.2.1 as = some v ∧ f c (pc + q.2.2.1) ls (v.toList ++ r) σ = some x) ∨ ∃ (v : Option en_v) (σ1 : en_m), en_bi q.2.2.2.1 as = none ∧ f (en_T q.2.2.2.1) 0 (en_ent q.2.2.2.1 as) [] σ = some (v, σ1) ∧ f c (pc + q.2.2.1) ls (v.toList ++ r) σ1 = some x) := by
  cases o with
  | none => cases h
  | some y =>
    obtain ⟨as, r⟩ := y
    unfold en_cl at h
    dsimp only at h
    cases hb : (Nat.ble (en_sum r) 8 && Nat.ble (en_sum as) (en_D q.2.2.2.1).2.2.1) with
    | false => rw [hb] at h; cases h
    | true =>
      rw [hb] at h
      simp only [Bool.and_eq_true] at hb
      refine ⟨as, r, rfl, Nat.le_of_ble_eq_true hb.1, Nat.le_of_ble_eq_true hb.2, ?_⟩
      dsimp only [cond_true] at h
      cases hbi : en_bi q.2.2.2.1 as with
      | some v => rw [hbi] at h; exact Or.inl ⟨v, rfl, h⟩
      | none =>
        rw [hbi] at h
        dsimp only at h
        cases he : f (en_T q.2.2.2.1) 0 (en_ent q.2.2.2.1 as) [] σ with
        | none => rw [he] at h; cases h
        | some w =>
          rw [he] at h
          exact Or.inr ⟨w.1, w.2, rfl, rfl, h⟩
/-- an answer that is a reference is one of the cells -/
theorem en_ret_ok : ∀ (n : Nat) (c : en_c) (pc : Nat) (ls : en_l) (st : List en_v) (σ : en_m) (r : Option en_v) (σ' : en_m), en_ev n c pc ls st σ = some (r, σ') → ∀ v, r = some v → en_ok v := by
  intro n
  induction n with
  | zero => intro c pc ls st σ r σ' h; cases h
  | succ n ih =>
    intro c pc ls st σ r σ' h v hv
    cases hq : en_at c pc with
    | none =>
      exfalso
      have : en_ev (n + 1) c pc ls st σ = none := by
        show (match en_at c pc with | none => none | some q => en_by (en_ev n) q c pc ls st σ) = _
        rw [hq]
      rw [this] at h
      cases h
    | some q =>
      rw [en_ev_s _ hq] at h
      have go : en_go (en_ev n) c (en_st q ls st σ) = some (r, σ') → en_ok v := by
        intro h
        cases hs : en_st q ls st σ with
        | none => rw [hs] at h; cases h
        | some y => rw [hs] at h; exact ih _ _ _ _ _ _ _ h v hv
      have call : ∀ o, en_cl (en_ev n) q c pc ls σ o = some (r, σ') → en_ok v := by
        intro o h
        obtain ⟨as, rr, -, -, -, h | h⟩ := en_cl_eq h
        · obtain ⟨w, -, h⟩ := h
          exact ih _ _ _ _ _ _ _ h v hv
        · obtain ⟨w, σ1, -, -, h⟩ := h
          exact ih _ _ _ _ _ _ _ h v hv
      unfold en_by at h
      generalize q.2.1 = i at h
      cases i <;> first
        | exact go h
        | exact call _ h
        | skip
      case areturn =>
        dsimp only at h
        split at h
        · split at h
          · rename_i hm
            cases h
            cases hv
            exact hm
          · cases h
        · cases h
      case ireturn =>
        dsimp only at h
        split at h
        · rename_i w
          cases hb : en_ret q.2.2.2.2.1 w with
          | false => rw [hb] at h; cases h
          | true => rw [hb] at h; cases h; cases hv; trivial
        · cases h
      case lreturn =>
        dsimp only at h
        split at h
        · cases h; cases hv; trivial
        · cases h
      case return_ =>
        dsimp only at h
        split at h
        · cases h; cases hv
        · cases h
      case invokestatic =>
        dsimp only at h
        cases hb : Nat.ble 100 q.2.2.2.2.1 with
        | true => rw [hb] at h; exact go h
        | false => rw [hb] at h; exact call _ h
theorem en_bi_eq {a : Nat} {as : List en_v} {v : Option en_v} (h : en_bi a as = some v) : a = z_X10_wordKind ∧ ∃ x : Int, as = [.inr (.inl x)] ∧ v = some (.inl (en_wk x)) := by
  unfold en_bi at h
  cases hb : Nat.beq a z_X10_wordKind with
  | false => rw [hb] at h; cases h
  | true =>
    rw [hb] at h
    dsimp only [cond_true] at h
    split at h
    · cases h; exact ⟨Nat.eq_of_beq_eq_true hb, _, rfl, rfl⟩
    · cases h
theorem en_map_app (ad : Nat → Int → Nat) (v : Option en_v) (rr : List en_v) : (v.toList ++ rr).map (en_rv ad) = (v.map (en_rv ad)).toList ++ rr.map (en_rv ad) := by
  cases v <;> rfl
set_option maxHeartbeats 4000000 in
theorem en_all (OK : en_OK) (WK : en_WK l) : ∀ n : Nat, en_Rn l n := by
  intro n
  induction n with
  | zero => intro p e s m args below meth c R z ad cA D lsA ls st H locs σ r σ' pc hz E hK hX S h; cases h
  | succ n IH =>
    intro p e s m args below meth c R z ad cA D lsA ls st H locs σ r σ' pc hz E hK hX S h
    cases hq : en_at (en_T z) pc with
    | none =>
      exfalso
      have : en_ev (n + 1) (en_T z) pc ls st σ = none := by
        show (match en_at (en_T z) pc with | none => none | some q => en_by (en_ev n) q (en_T z) pc ls st σ) = _
        rw [hq]
      rw [this] at h
      cases h
    | some q =>
      rw [en_ev_s _ hq] at h
      obtain ⟨hmem, hpc⟩ := en_at_mem hq
      have hc := OK.1 z q hmem
      subst hpc
      have go : en_go (en_ev n) (en_T z) (en_st q ls st σ) = some (r, σ') → W p l e R s m args below meth c H locs 0 0 (MQ below (en_Qc ad cA D r σ' s.heap.size) args s 0 0 (en_A ad s.heap.size)) (F0 m q.1 lsA (st.map (en_rv ad))) := by
        intro h
        cases hs : en_st q ls st σ with
        | none => rw [hs] at h; cases h
        | some y =>
          rw [hs] at h
          exact en_snd E hK hc S hs (fun H1 locs1 lsA1 S1 => IH p e s m args below meth c R z ad cA D lsA1 _ _ H1 locs1 _ r σ' _ hz E hK hX S1 h)
      have call : ∀ (vs : Bool) (idx : Nat) (o : Option (List en_v × List en_v)), en_cl (en_ev n) q (en_T z) q.1 ls σ o = some (r, σ') → (∀ as rr, o = some (as, rr) → en_pop q.2.2.2.2.1 st [] = some (as, rr) ∧ (vs = false → ∃ (k : Nat) (o : Int) (ci : Nat) (fs : List (Nat × Nat × Nat)) (as' : List en_v) (q1 : vw_C), as = .inr (.inr (k, o)) :: as' ∧ en_K k = .inl (ci, fs) ∧ classes[ci]? = some q1 ∧ q1.1 = (en_y q.2.2.2.1).cls)) → en_cc z q.2.2.2.1 q.2.2.2.2.1 q.2.2.2.2.2.1 idx vs = true → decode (en_B z) q.1 = .ok (bif vs then .invokestatic idx else .invokevirtual idx, q.2.2.1) → q.2.2.1 = 3 → W p l e R s m args below meth c H locs 0 0 (MQ below (en_Qc ad cA D r σ' s.heap.size) args s 0 0 (en_A ad s.heap.size)) (F0 m q.1 lsA (st.map (en_rv ad))) := by
        intro vs idx o h ho hcc hd hlen
        obtain ⟨as, rr, e1, h8, hsum, hh⟩ := en_cl_eq h
        obtain ⟨hpop, hrec⟩ := ho as rr e1
        rw [hlen] at hd hh
        have ha := (en_cc_of hcc).2.2.2.2.2
        obtain ⟨L, hL, hst, has⟩ := en_pop_eq hpop
        have hoka : ∀ v ∈ as, en_ok v := fun v hv => S.2.2.2.2.2 v (by rw [hst]; exact List.mem_append_left _ (by rw [has, List.append_nil] at hv; exact List.mem_reverse.mp hv))
        have hokr : ∀ v ∈ rr, en_ok v := fun v hv => S.2.2.2.2.2 v (by rw [hst]; exact List.mem_append_right _ hv)
        have fin : ∀ (v : Option en_v) (σ1 : en_m), (∀ w, v = some w → en_ok w) → (∀ sz, Met l (en_y q.2.2.2.1) (en_ws q.2.2.2.1) (en_rm q.2.2.2.1) (en_Pc ad cA D as σ sz) (en_Qc ad cA D v σ1 sz) 0 0 (en_A ad sz)) → en_ev n (en_T z) (q.1 + 3) ls (v.toList ++ rr) σ1 = some (r, σ') → W p l e R s m args below meth c H locs 0 0 (MQ below (en_Qc ad cA D r σ' s.heap.size) args s 0 0 (en_A ad s.heap.size)) (F0 m q.1 lsA (st.map (en_rv ad))) := by
          intro v σ1 hv hM hev
          refine en_behind OK ha E hK hX S hM hcc hpop h8 hd hrec (fun H1 locs1 hP1 hS1 => ?_)
          rw [← en_map_app]
          refine IH p e s m args below meth c R z ad cA D lsA ls _ H1 locs1 σ1 r σ' _ hz E hK hX ⟨hP1, en_D_of _ S.2.1, hS1, S.2.2.2.1, S.2.2.2.2.1, fun w hw => ?_⟩ hev
          rcases List.mem_append.mp hw with hw | hw
          · cases v with
            | none => cases hw
            | some u => rcases List.mem_singleton.mp hw with rfl; exact hv _ rfl
          · exact hokr w hw
        rcases hh with hh | hh
        · obtain ⟨v, hbi, hev⟩ := hh
          obtain ⟨ea, x, eas, ev⟩ := en_bi_eq hbi
          subst eas
          subst ev
          refine fin _ σ (fun w hw => by cases hw; trivial) (fun sz => ?_) hev
          rw [ea]
          exact WK ad cA D σ sz x
        · obtain ⟨v, σ1, -, hev1, hev⟩ := hh
          exact fin v σ1 (en_ret_ok _ _ _ _ _ _ _ _ hev1) (fun sz => en_met OK IH ha sz hoka hsum hev1) hev
      obtain ⟨hx, hb, hml, hown, hts, hr, hlk, hfr, hlo⟩ := id E
      have hfin : ∀ (rv : Option en_v), r = rv → σ' = σ → ∀ t : State, t.heap = H → s.WarmedH t.vm → en_Qc ad cA D r σ' s.heap.size args s (.returned (rv.map (en_rv ad))) t := by
        intro rv e1 e2 t ht hW
        subst e1; subst e2
        exact ⟨rfl, by rw [ht]; exact S.1, S.2.2.1.F ht⟩
      have hfree : ∀ x ∈ locs, en_A ad s.heap.size x.base := S.2.2.1.2.2
      obtain ⟨pc, i, len, a, b, j, x⟩ := q
      unfold en_by at h
      dsimp only at h
      cases i <;> first
        | exact go h
        | skip
      case return_ =>
        unfold en_chk at hc
        simp only [Bool.and_eq_true, decide_eq_true_eq] at hc
        obtain ⟨hd, hlen, hrt⟩ := hc
        have hlen := Nat.eq_of_beq_eq_true hlen
        subst hlen
        dsimp only at h
        split at h
        · cases h
          exact W.vret hx hb (hr.trans hrt) (hfin none rfl rfl) hfree hd
        · cases h
      case ireturn =>
        unfold en_chk at hc
        simp only [Bool.and_eq_true, decide_eq_true_eq] at hc
        obtain ⟨hd, hlen, hrt⟩ := hc
        have hlen := Nat.eq_of_beq_eq_true hlen
        subst hlen
        dsimp only at h
        split at h
        · rename_i v
          cases hb1 : Nat.beq b 1 with
          | false =>
            rw [hb1] at hrt
            have hr2 : en_ret b v = true := by unfold en_ret; rw [hb1]; rfl
            rw [hr2] at h
            cases h
            exact W.iret hx hb (hr.trans (of_decide_eq_true hrt)) (hfin (some (.inl v)) rfl rfl) hfree hd
          | true =>
            rw [hb1] at hrt
            cases h01 : en_ret b v with
            | false => rw [h01] at h; cases h
            | true =>
              rw [h01] at h
              cases h
              unfold en_ret at h01
              rw [hb1] at h01
              simp only [cond_true, Bool.or_eq_true, decide_eq_true_eq] at h01
              exact W.zret hx hb (hr.trans (of_decide_eq_true hrt)) (by rcases h01 with rfl | rfl <;> rfl) (hfin (some (.inl v)) rfl rfl) hfree hd
        · cases h
      case lreturn =>
        unfold en_chk at hc
        simp only [Bool.and_eq_true, decide_eq_true_eq] at hc
        obtain ⟨hd, hlen, hrt⟩ := hc
        have hlen := Nat.eq_of_beq_eq_true hlen
        subst hlen
        dsimp only at h
        split at h
        · rename_i v
          cases h
          exact W.lret hx hb (hr.trans hrt) (hfin (some (.inr (.inl v))) rfl rfl) hfree hd
        · cases h
      case areturn =>
        unfold en_chk at hc
        simp only [Bool.and_eq_true, decide_eq_true_eq] at hc
        obtain ⟨hd, hlen, hrt⟩ := hc
        have hlen := Nat.eq_of_beq_eq_true hlen
        subst hlen
        dsimp only at h
        split at h
        · rename_i v
          split at h
          · cases h
            cases hrr : en_rt z with
            | none => rw [hrr] at hrt; cases hrt
            | some ty =>
              rw [hrr] at hrt hr
              cases ty with
              | object n2 => exact W.aret hx hb hr (Or.inl ⟨_, rfl⟩) (Or.inr ⟨_, rfl⟩) (hfin (some (.inr (.inr v))) rfl rfl) hfree hd
              | array n2 => exact W.aret hx hb hr (Or.inr ⟨_, rfl⟩) (Or.inr ⟨_, rfl⟩) (hfin (some (.inr (.inr v))) rfl rfl) hfree hd
              | _ => cases hrt
          · cases h
        · cases h
      case invokevirtual idx =>
        unfold en_chk at hc
        simp only [Bool.and_eq_true, decide_eq_true_eq] at hc
        obtain ⟨hd, hlen, hcc, hcls⟩ := hc
        have hlen := Nat.eq_of_beq_eq_true hlen
        refine call false idx _ h (fun as rr ho => ?_) hcc hd hlen
        obtain ⟨h1, k, o, ci, fs, as', e1, e2, e3⟩ := en_rcv_eq ho
        refine ⟨h1, fun _ => ?_⟩
        cases hq1 : classes[x.toNat]? with
        | none => rw [hq1] at hcls; cases hcls
        | some q1 =>
          rw [hq1] at hcls
          exact ⟨k, o, ci, fs, as', q1, e1, e2, by rw [e3]; exact hq1, Option.some.inj hcls⟩
      case invokestatic idx =>
        cases hb0 : Nat.ble 100 b with
        | true => rw [hb0] at h; exact go h
        | false =>
          rw [hb0] at h
          have hne : ∀ t : Nat, 100 ≤ t → Nat.beq b t = false := by
            intro t ht
            cases e : Nat.beq b t with
            | false => rfl
            | true =>
              rw [Nat.eq_of_beq_eq_true e, Nat.ble_eq_true_of_le ht] at hb0
              cases hb0
          unfold en_chk at hc
          simp only [Bool.and_eq_true, decide_eq_true_eq] at hc
          obtain ⟨hd, hlen, hcc⟩ := hc
          rw [hne 100 (by decide), hne 101 (by decide), hne 102 (by decide)] at hcc
          have hlen := Nat.eq_of_beq_eq_true hlen
          exact call true idx _ h (fun as rr ho => ⟨ho, fun e => by cases e⟩) hcc hd hlen
/-- a method of the engine, by its contract there: a contract of the machine -/
theorem en_meth (OK : en_OK) (WK : en_WK l) {a : Nat} (ha : a < 332) {as : List en_v} {σ : en_m} {Q : Option en_v → en_m → Prop} (hok : ∀ v ∈ as, en_ok v) (hsum : en_sum as ≤ en_mL a) (h : en_ct a as σ Q) : ∃ (r : Option en_v) (σ' : en_m), Q r σ' ∧ ∀ (ad : Nat → Int → Nat) (cA : Nat → ClassId) (D : va_G) (sz : Nat), Met l (en_y a) (en_ws a) (en_rm a) (en_Pc ad cA D as σ sz) (en_Qc ad cA D r σ' sz) 0 0 (en_A ad sz) := by
  obtain ⟨n, r, σ', h1, h2⟩ := h
  exact ⟨r, σ', h2, fun ad cA D sz => en_met OK (en_all OK WK n) ha sz hok hsum h1⟩
end MAIN3
