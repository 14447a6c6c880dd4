/-! the constructors: a run of the tables is a contract -/
def ci_Pc (sz : Nat) (cA : Nat → ClassId) (D : va_G) (as : List en_v) (C : List ci_c) : Array Value → State → Prop := va_Pc (as.map (en_rv (ci_ad sz))) (fun U => U.heap.size = sz + C.length ∧ va_P D classes (ci_W sz cA C) U.heap ∧ va_K D classes (en_tys cA) U ∧ ci_Q U)
def ci_Qc (sz : Nat) (cA : Nat → ClassId) (D : va_G) (C1 : List ci_c) : Array Value → State → Outcome → State → Prop := fun _ st oc t => (oc = .returned none ∧ t.heap.size = sz + C1.length ∧ va_P D classes (ci_W sz cA C1) t.heap) ∧ va_F (fun q => sz ≤ q) st t
def ci_ws (z : Nat) : List Cond := .code (ci_y z) (ci_B z) (ci_mL z) none :: en_tb
def ci_rm (z : Nat) : Room := { frames := ci_fr z, cells := ci_ce z, slots := ci_sl z, locals := ci_lo z }
theorem ci_fb (sz : Nat) (cA : Nat → ClassId) (D : va_G) (as : List en_v) (C : List ci_c) : FrameBlind (ci_Pc sz cA D as C) := by
  intro a U g mk h
  obtain ⟨h0, h1, h2, h3, h4⟩ := h
  exact ⟨h0, h1, h2, va_K.moved (u := U) (U := U.calling g mk a) (Vm.Alike.refl U.vm) h3, ci_Q_same (u := U) (U := U.calling g mk a) rfl h4⟩
theorem ci_lh_ent {ad : Nat → Int → Nat} {n : Nat} {as : List en_v} (h : en_sum as ≤ n) : en_lh ad ((lg_sl (as.map (en_rv ad)) ++ List.replicate (n - (lg_sl (as.map (en_rv ad))).length) Slot.unset).toArray) n (en_pad n (en_args as)) := by
  have hv := lv_entry (as.map (en_rv ad)) (n := n) (by rw [en_sl_len]; exact h)
  refine ⟨hv.1, hv.2.1, fun i v hi => ?_⟩
  obtain ⟨-, h2⟩ := en_args_get ad as 0 i v (en_pad_get _ _ i v hi)
  rw [Nat.zero_add] at h2
  exact hv.2.2 _ h2
theorem ci_mchk_of (OK : ci_OK) {a : Nat} (h : a < 14) : (Cond.code (ci_y a) (ci_B a) (ci_mL a) none ∈ en_tb ∧ Cond.instanceMethod (ci_y a) ∈ en_tb ∧ Cond.initialized (ci_y a).cls ∈ en_tb) ∧ ((ci_y a).cls ≠ "java/lang/invoke/MethodHandle" ∧ (ci_y a).cls ≠ "java/lang/invoke/VarHandle" ∧ (parseMethodDescriptor (ci_y a).desc).map (fun d => d.parameters.length) = some (ci_na a - 1)) ∧ plainName (ci_y a).cls = true ∧ 0 < ci_na a ∧ (a = 13 → Cond.selects (ci_y a).cls (ci_y a) (ci_y a) ∈ en_tb) ∧ (a ≠ 13 → (ci_y a).name = "<init>") ∧ decode (ci_B a) (ci_rp a) = .ok (.return_, 1) := by
  have hm := OK.2.1 a h
  unfold ci_mchk at hm
  simp only [Bool.and_eq_true, decide_eq_true_eq] at hm
  obtain ⟨⟨⟨⟨⟨w1, w2⟩, w3⟩, ⟨⟨⟨⟨n1, n2⟩, n3⟩, n4⟩, n5⟩⟩, k1⟩, k2⟩ := hm
  refine ⟨⟨en_wd_in w1, en_wd_in w2, en_wd_in w3⟩, ⟨n1, n2, n3⟩, n4, Nat.le_of_ble_eq_true n5, fun e => ?_, fun e => ?_, k2⟩
  · rw [e] at k1 ⊢
    exact en_wd_in k1
  · have : Nat.beq a 13 = false := by
      cases hb : Nat.beq a 13 with
      | false => rfl
      | true => exact absurd (Nat.eq_of_beq_eq_true hb) e
    rw [this] at k1
    exact of_decide_eq_true k1
def ci_Rn (l : Launch) (n : Nat) : Prop := ∀ (p : Program) (e : Env) (s : State) (m : MethodId) (args : Array Value) (below : List Frame) (meth : Method) (c : Code) (R : Room) (z sz : Nat) (cA : Nat → ClassId) (D : va_G) (lsA : Array Slot) (ls : en_l) (st : List en_v) (H : Heap) (locs : List Loc) (C : List ci_c) (ls1 : en_l) (st1 : List en_v) (C1 : List ci_c) (pc n0 s0 NM SM : Nat) (Q : State → Prop), z < 14 → ci_E z p s m args meth c R → va_K D classes (en_tys cA) s → ci_Q s → s.heap.size = sz + n0 → NM ≤ n0 + R.cells → SM ≤ s0 + R.slots → ((n0 ≤ C.length ∧ s0 ≤ ci_sz C) ∧ C.length ≤ NM ∧ ci_sz C ≤ SM) → ci_S sz cA D s.heap (ci_mL z) lsA ls H locs C → ci_ev n z NM SM pc ls st C = some (ls1, st1, C1) →
  (∀ (H1 : Heap) (locs1 : List Loc) (lsA1 : Array Slot), ci_S sz cA D s.heap (ci_mL z) lsA1 ls1 H1 locs1 C1 → W p l e R s m args below meth c H1 locs1 (C1.length - n0) (ci_sz C1 - s0) Q (F0 m (ci_stop z) lsA1 (st1.map (en_rv (ci_ad sz))))) →
  W p l e R s m args below meth c H locs (C.length - n0) (ci_sz C - s0) Q (F0 m pc lsA (st.map (en_rv (ci_ad sz))))
theorem ci_met (OK : ci_OK) {l : Launch} {n : Nat} (IH : ci_Rn l n) {a : Nat} (ha : a < 14) (h12 : a ≠ 12) {sz : Nat} {cA : Nat → ClassId} {D : va_G} {as : List en_v} {C C1 : List ci_c} {ls1 : en_l} (hsum : en_sum as ≤ ci_mL a) (hl1 : C1.length = C.length + ci_ce a) (hl2 : ci_sz C1 = ci_sz C + ci_sl a) (hev : ci_ev n a (C.length + ci_ce a) (ci_sz C + ci_sl a) 0 (en_pad (ci_mL a) (en_args as)) [] C = some (ls1, [], C1)) : Met l (ci_y a) (ci_ws a) (ci_rm a) (ci_Pc sz cA D as C) (ci_Qc sz cA D C1) (ci_ce a) (ci_sl a) (fun q => sz ≤ q) := by
  obtain ⟨-, -, hpn, -, -, hnm, hret⟩ := ci_mchk_of OK ha
  refine Met.ofW (cc := ci_B a) (maxL := ci_mL a) (ret := none) hpn rfl ?_
  intro p e s m args below meth c s₁ B hml hv
  obtain ⟨rfl, hz, hP, hK, hQ⟩ := hv
  have hts := atoms_spec (ws := ci_ws a) B.pre
  have hr := B.returns
  have hlocks := B.notSynchronized
  have hx := B.exec
  have hb := B.bytes
  rw [lg_entry_eq]
  have hstop : ci_stop a = ci_rp a := by
    unfold ci_stop
    cases hb : Nat.beq a 12 with
    | false => rfl
    | true => exact absurd (Nat.eq_of_beq_eq_true hb) h12
  refine ci_cs (a := C.length - C.length) (b := ci_sz C - ci_sz C) (by omega) (by omega) ?_
  refine IH p e s m _ below meth c (headSpec (ci_ws a) (ci_rm a)).room a sz cA D _ _ [] s.heap [] C ls1 [] C1 0 C.length (ci_sz C) (C.length + ci_ce a) (ci_sz C + ci_sl a) _ ha ⟨B.exec, B.bytes, hml, findClass_of_methodNamed B.named, fun w hw => hts w (List.mem_cons_of_mem _ hw), fun h13 => (name_of_methodNamed B.named B.method).1.trans (hnm (by omega)), rfl, rfl⟩ hK hQ hz (Nat.le_refl _) (Nat.le_refl _) ⟨⟨Nat.le_refl _, Nat.le_refl _⟩, Nat.le_add_right _ _, Nat.le_add_right _ _⟩ ⟨hz, hP, va_S.rf, ci_lh_ent hsum⟩ hev (fun H1 locs1 lsA1 S1 => ?_)
  obtain ⟨z1, hP1, hS1, -⟩ := S1
  refine ci_cs (a := ci_ce a) (b := ci_sl a) (by omega) (by omega) ?_
  rw [hstop]
  exact W.vret hx hb hr (fun t h9 hW => ⟨⟨rfl, by rw [h9]; exact z1, by rw [h9]; exact hP1⟩, hS1.F h9⟩) hS1.2.2 hret
section CIC
variable {p : Program} {l : Launch} {e : Env} {R : Room} {s : State} {m : MethodId} {args : Array Value} {below : List Frame} {meth : Method} {c : Code} {H : Heap} {locs : List Loc} {cells slots : Nat} {Q : State → Prop} {pc : Nat} {ls : Array Slot} {rest st0 : List Value} {a : Array Value}
theorem ci_callW {mc ms sz : Nat} {cA : Nat → ClassId} {D : va_G} {C1 : List ci_c} {H0 : Heap} (hr : va_Run p l e R s m args below meth c H locs cells slots mc ms (F0 m pc ls st0) rest (ci_Qc sz cA D C1 a) (fun q => sz ≤ q)) (hS : va_S (fun q => sz ≤ q) H0 H locs)
    (kk : ∀ (H1 : Heap) (locs1 : List Loc), H1.size = sz + C1.length → va_P D classes (ci_W sz cA C1) H1 → va_S (fun q => sz ≤ q) H0 H1 locs1 → W p l e R s m args below meth c H1 locs1 (cells + mc) (slots + ms) Q (F0 m (pc + 3) ls rest)) : W p l e R s m args below meth c H locs cells slots Q (F0 m pc ls st0) := by
  intro T hT X
  obtain ⟨v, st₀, t, T', L, h0, X', hL, e1, e2, ⟨⟨hv, hz1, hp⟩, hz, hk⟩, st⟩ := hr T hT X
  cases hv
  rw [h0] at hz hk
  obtain ⟨t2, a1, b1⟩ := kk T'.heap (locs ++ L) (by rw [e1]; exact hz1) (by rw [e1]; exact hp)
    ⟨Nat.le_trans hS.1 (by rw [e1]; exact hz), fun q h1 h2 => by rw [e1, hk q (Nat.lt_of_lt_of_le h1 hS.1) h2]; exact hS.2.1 q h1 h2, fun q hq => by
      rcases List.mem_append.mp hq with h | h
      · exact hS.2.2 q h
      · exact hL q h⟩ T' rfl X'
  exact ⟨t2, st t2 a1, b1⟩
end CIC
theorem ci_dn_of {NM SM : Nat} {o : Option (en_l × List en_v × List ci_c)} {C : List ci_c} (h : ci_dn NM SM o = some C) : (∃ ls, o = some (ls, [], C)) ∧ C.length = NM ∧ ci_sz C = SM := by
  unfold ci_dn at h
  split at h
  · rename_i ls C2
    cases hb : (Nat.beq C2.length NM && Nat.beq (ci_sz C2) SM) with
    | false => rw [hb] at h; cases h
    | true =>
      rw [hb] at h
      cases h
      simp only [Bool.and_eq_true] at hb
      exact ⟨⟨ls, rfl⟩, Nat.eq_of_beq_eq_true hb.1, Nat.eq_of_beq_eq_true hb.2⟩
  · cases h
theorem ci_ev_s (n z NM SM pc : Nat) (ls : en_l) (st : List en_v) (C : List ci_c) : ci_ev (n + 1) z NM SM pc ls st C = (bif Nat.beq pc (ci_stop z) then some (ls, st, C) else match en_at (ci_T z) pc with
    | none => none
    | some q => bif ci_call q then (match en_pop q.2.2.2.2.1 st [] with
        | some (.inr (.inr k) :: as, r) => bif ((Nat.ble (en_sum r) 8 && Nat.ble (en_sum (.inr (.inr k) :: as)) (ci_mL q.2.2.2.1)) && ci_rc q C k.1) && (Nat.ble (C.length + ci_ce q.2.2.2.1) NM && Nat.ble (ci_sz C + ci_sl q.2.2.2.1) SM) then (match ci_dn (C.length + ci_ce q.2.2.2.1) (ci_sz C + ci_sl q.2.2.2.1) (ci_ev n q.2.2.2.1 (C.length + ci_ce q.2.2.2.1) (ci_sz C + ci_sl q.2.2.2.1) 0 (en_pad (ci_mL q.2.2.2.1) (en_args (.inr (.inr k) :: as))) [] C) with
          | some C1 => ci_ev n z NM SM (pc + 3) ls r C1
          | none => none) else none
        | _ => none) else bif ci_obj q then (match st with
        | .inr (.inr _) :: r => bif Nat.ble (en_sum r) 8 then ci_ev n z NM SM (pc + 3) ls r C else none
        | _ => none) else (match ci_st q ls st C NM SM with
        | some y => ci_ev n z NM SM y.1 y.2.1 y.2.2.1 y.2.2.2
        | none => none)) := rfl
set_option maxHeartbeats 4000000 in
theorem ci_all (OK : ci_OK) (l : Launch) : ∀ n : Nat, ci_Rn l n := by
  intro n
  induction n with
  | zero => intro p e s m args below meth c R z sz cA D lsA ls st H locs C ls1 st1 C1 pc n0 s0 NM SM Q hz14 E hK hQ hs0 hN hM h1 S h; cases h
  | succ n IH =>
    intro p e s m args below meth c R z sz cA D lsA ls st H locs C ls1 st1 C1 pc n0 s0 NM SM Q hz14 E hK hQ hs0 hN hM h1 S h K
    rw [ci_ev_s] at h
    cases hst : Nat.beq pc (ci_stop z) with
    | true =>
      rw [hst] at h
      cases h
      rw [Nat.eq_of_beq_eq_true hst]
      exact K H locs lsA S
    | false =>
      rw [hst] at h
      dsimp only [cond_false] at h
      cases hq : en_at (ci_T z) pc with
      | none => rw [hq] at h; cases h
      | some q =>
        rw [hq] at h
        dsimp only at h
        obtain ⟨hqm, hqp⟩ := en_at_mem hq
        have hc := OK.1 z hz14 q hqm
        subst hqp
        cases hcall : ci_call q with
        | true =>
          rw [hcall] at h
          dsimp only [cond_true] at h
          split at h
          rotate_left
          · cases h
          rename_i k as r hpop
          obtain ⟨lst, hl1, hl2, hl3⟩ := en_pop_eq hpop
          rw [List.append_nil] at hl3
          have hlst : lst = as.reverse ++ [.inr (.inr k)] := by
            rw [← List.reverse_reverse lst, ← hl3, List.reverse_cons]
          subst hlst
          generalize hgd : (((Nat.ble (en_sum r) 8 && Nat.ble (en_sum (.inr (.inr k) :: as)) (ci_mL q.2.2.2.1)) && ci_rc q C k.1) && (Nat.ble (C.length + ci_ce q.2.2.2.1) NM && Nat.ble (ci_sz C + ci_sl q.2.2.2.1) SM)) = gd at h
          cases gd with
          | false => cases h
          | true =>
            dsimp only [cond_true] at h
            simp only [Bool.and_eq_true] at hgd
            obtain ⟨⟨⟨hr8, hsum⟩, hrc⟩, hNM, hSM⟩ := hgd
            have hr8 := Nat.le_of_ble_eq_true hr8
            have hsum2 := Nat.le_of_ble_eq_true hsum
            have hNM2 := Nat.le_of_ble_eq_true hNM
            have hSM2 := Nat.le_of_ble_eq_true hSM
            split at h
            rotate_left
            · cases h
            rename_i C2 hdn
            obtain ⟨⟨ls2, hev⟩, g1, g2⟩ := ci_dn_of hdn
            obtain ⟨hx, hb, hml, hown, hts, hnm, hfr, hlo⟩ := id E
            obtain ⟨hz, hP, hS, hl⟩ := S
            have hcat : ((r.map (en_rv (ci_ad sz))).map fun v => v.category).sum ≤ 8 := by rw [en_sum_map]; exact hr8
            have hpre : ∀ U : State, U.heap = H → s.WarmedH U.vm → ci_Pc sz cA D (.inr (.inr k) :: as) C (((.inr (.inr k) :: as) : List en_v).map (en_rv (ci_ad sz))).toArray U := fun U hU hW => ⟨rfl, by rw [hU]; exact hz, by rw [hU]; exact hP, va_K.moved hW.alike hK, ci_Q_warm hW hQ⟩
            have hstk : st.map (en_rv (ci_ad sz)) = (as.map (en_rv (ci_ad sz))).reverse ++ .ref (sz + k.1) :: r.map (en_rv (ci_ad sz)) := by
              rw [hl2, List.map_append, List.map_append, List.map_reverse, List.append_assoc]
              rfl
            have hlen0 : as.length + 1 = q.2.2.2.2.1 := by
              rw [← hl1, List.length_append, List.length_reverse]; rfl
            have hfin : ∀ (H1 : Heap) (locs1 : List Loc), H1.size = sz + C2.length → va_P D classes (ci_W sz cA C2) H1 → va_S (fun q => sz ≤ q) s.heap H1 locs1 → W p l e R s m args below meth c H1 locs1 (C.length - n0 + ci_ce q.2.2.2.1) (ci_sz C - s0 + ci_sl q.2.2.2.1) Q (F0 m (q.1 + 3) lsA (r.map (en_rv (ci_ad sz)))) := fun H1 locs1 z1 hP1 hS1 => by
              refine ci_cs (a := C2.length - n0) (b := ci_sz C2 - s0) (by omega) (by omega) ?_
              exact IH p e s m args below meth c R z sz cA D lsA ls r H1 locs1 C2 ls1 st1 C1 (q.1 + 3) n0 s0 NM SM Q hz14 E hK hQ hs0 hN hM (by omega) ⟨z1, hP1, hS1, hl⟩ h K
            obtain ⟨pc, i, len, a, b, j, x⟩ := q
            dsimp only at hev g1 g2 hsum2 hNM2 hSM2 hlen0 hfin
            have hroomc : C.length - n0 + ci_ce a ≤ R.cells ∧ ci_sz C - s0 + ci_sl a ≤ R.slots := by omega
            unfold ci_call at hcall
            dsimp only at hcall
            split at hcall
            · rename_i idx
              unfold ci_chk at hc
              simp only [Bool.and_eq_true, decide_eq_true_eq] at hc
              obtain ⟨hd, hlen, hc⟩ := hc
              have hlen := Nat.eq_of_beq_eq_true hlen
              subst hlen
              cases h99 : Nat.beq a 99 with
              | true => rw [h99] at hcall; cases hcall
              | false =>
                rw [h99] at hc
                simp only [cond_false, Bool.and_eq_true] at hc
                obtain ⟨ha, hna, ⟨hf1, hf2⟩, hlink⟩ := hc
                have ha := Nat.le_of_ble_eq_true ha
                have hna := Nat.eq_of_beq_eq_true hna
                have hf1 := Nat.le_of_ble_eq_true hf1
                have hf2 := Nat.le_of_ble_eq_true hf2
                obtain ⟨⟨w1, w2, w3⟩, wd, wp, wn, -, wnm, -⟩ := ci_mchk_of OK (a := a) (by omega)
                have hM1 : Met l (ci_y a) (ci_ws a) (ci_rm a) (ci_Pc sz cA D (.inr (.inr k) :: as) C) (ci_Qc sz cA D C2) (ci_ce a) (ci_sl a) (fun q => sz ≤ q) := ci_met OK IH (by omega) (by omega) hsum2 g1 g2 hev
                have hroom : (ci_rm a).frames + 1 ≤ R.frames ∧ 8 + (ci_mL a + 11) + (ci_rm a).locals ≤ R.locals := ⟨by rw [hfr]; exact hf1, by rw [hlo]; exact hf2⟩
                have hlen2 : (as.map (en_rv (ci_ad sz))).length = ci_na a - 1 := by rw [List.length_map]; omega
                cases hx1 : decide (x = 1) with
                | false =>
                  rw [hx1] at hlink
                  have cw : CallB R s args (ci_y z).cls idx (ci_y a) (ci_B a) (ci_mL a) none (ci_ws a) (ci_rm a) (ci_ce a) (ci_sl a) (ci_na a - 1) ∧ (ci_y a).name = "<init>" ∧ (Cond.instanceMethod (ci_y a)).before args s = true := ⟨callB_of (ci_na a - 1) hts (pu_good w1) rfl rfl rfl (hts _ w3) (hts _ (en_wd_in hlink)) wd hroom, wnm (by omega), hts _ w2⟩
                  exact ci_callW (va_runI (Ts := en_tb) ⟨hx, hb, hml, hown, hts⟩ hM1 cw ⟨ci_fb sz cA D _ C, hpre⟩ rfl hlen2 hl.1 hstk (lv_room hcat) hd hroomc) hS hfin
                | true =>
                  rw [hx1] at hlink
                  simp only [cond_true, Bool.and_eq_true, decide_eq_true_eq] at hlink
                  obtain ⟨hcls, hany⟩ := hlink
                  obtain ⟨q9, hq9, hq8⟩ := List.any_eq_true.mp hany
                  have hq8 := of_decide_eq_true hq8
                  subst hq8
                  rw [hcls] at hown
                  have cw : va_CN R s args "WordAlgebra" idx (ci_y a) "WordAlgebra" (ci_B a) (ci_mL a) none (ci_ws a) (ci_rm a) (ci_ce a) (ci_sl a) (ci_na a - 1) ∧ (ci_y a).name = "<init>" ∧ (Cond.instanceMethod (ci_y a)).before args s = true := ⟨va_cnB (ci_na a - 1) hts (pu_good w1) rfl rfl rfl (hQ.2 _ hq9) (hts _ w3) wd hroom, wnm (by omega), hts _ w2⟩
                  exact ci_callW (va_runIN (Ts := en_tb) ⟨hx, hb, hml, hown, hts⟩ hM1 cw ⟨ci_fb sz cA D _ C, hpre⟩ rfl hlen2 hl.1 hstk (lv_room hcat) hd hroomc) hS hfin
            · rename_i idx
              unfold ci_chk at hc
              simp only [Bool.and_eq_true, decide_eq_true_eq] at hc
              obtain ⟨hd, hlen, ha, hna, ⟨hf1, hf2⟩, hlink⟩ := hc
              have hlen := Nat.eq_of_beq_eq_true hlen
              subst hlen
              have ha := Nat.eq_of_beq_eq_true ha
              subst ha
              have hna := Nat.eq_of_beq_eq_true hna
              have hf1 := Nat.le_of_ble_eq_true hf1
              have hf2 := Nat.le_of_ble_eq_true hf2
              obtain ⟨⟨w1, w2, w3⟩, wd, wp, wn, wse, -, -⟩ := ci_mchk_of OK (a := 13) (by decide)
              have hM1 : Met l (ci_y 13) (ci_ws 13) (ci_rm 13) (ci_Pc sz cA D (.inr (.inr k) :: as) C) (ci_Qc sz cA D C2) (ci_ce 13) (ci_sl 13) (fun q => sz ≤ q) := ci_met OK IH (by decide) (by decide) hsum2 g1 g2 hev
              have hroom : (ci_rm 13).frames + 1 ≤ R.frames ∧ 8 + (ci_mL 13 + 11) + (ci_rm 13).locals ≤ R.locals := ⟨by rw [hfr]; exact hf1, by rw [hlo]; exact hf2⟩
              have hlen2 : (as.map (en_rv (ci_ad sz))).length = ci_na 13 - 1 := by rw [List.length_map]; omega
              unfold ci_rc at hrc
              dsimp only at hrc
              split at hrc
              · rename_i cc fs hk
                have hcc := Nat.eq_of_beq_eq_true hrc
                subst hcc
                obtain ⟨q5, hq5⟩ := ci_cls (a := 5) (by decide)
                have hrcv := va_recv hK hP (ci := 5) (q0 := k.1) hq5 (ci_W_at hk)
                have e5 : q5.1 = (ci_y 13).cls := by
                  have : classes[5]? = some (RX5, TX5, 6) := rfl
                  rw [this] at hq5
                  cases hq5
                  rfl
                rw [e5] at hrcv
                have cw : CallW R s args (ci_y z).cls (ci_y 13).cls idx (ci_y 13) (ci_B 13) (ci_mL 13) none (ci_ws 13) (ci_rm 13) (ci_ce 13) (ci_sl 13) (ci_na 13 - 1) := ⟨callB_of (ci_na 13 - 1) hts (pu_good w1) rfl rfl rfl (hts _ w3) (hts _ (en_wd_in hlink)) wd hroom, hts _ w2, hts _ (wse rfl)⟩
                exact ci_callW (va_runV (Ts := en_tb) ⟨hx, hb, hml, hown, hts⟩ hM1 cw ⟨ci_fb sz cA D _ C, hrcv, hpre⟩ rfl hlen2 hl.1 hstk (lv_room hcat) hd hroomc) hS hfin
              · cases hrc
            · cases hcall
        | false =>
          rw [hcall] at h
          dsimp only [cond_false] at h
          cases hobj : ci_obj q with
          | true =>
            rw [hobj] at h
            dsimp only [cond_true] at h
            split at h
            · rename_i k r
              cases hr8 : Nat.ble (en_sum r) 8 with
              | false => rw [hr8] at h; cases h
              | true =>
                rw [hr8] at h
                dsimp only [cond_true] at h
                have hr8 := Nat.le_of_ble_eq_true hr8
                obtain ⟨pc, i, len, a, b, j, x⟩ := q
                unfold ci_obj at hobj
                dsimp only at hobj
                split at hobj
                · rename_i idx
                  have h99 := Nat.eq_of_beq_eq_true hobj
                  subst h99
                  unfold ci_chk at hc
                  simp only [Bool.and_eq_true, decide_eq_true_eq] at hc
                  obtain ⟨hd, hlen, hc⟩ := hc
                  have hlen := Nat.eq_of_beq_eq_true hlen
                  subst hlen
                  have hc : (en_wd j (.methodLink (ci_y z).cls idx Lib.objectInit) && (Nat.ble 1 (ci_fr z) && Nat.ble 30 (ci_lo z))) = true := hc
                  simp only [Bool.and_eq_true] at hc
                  obtain ⟨hlink, hf1, hf2⟩ := hc
                  have hf1 := Nat.le_of_ble_eq_true hf1
                  have hf2 := Nat.le_of_ble_eq_true hf2
                  obtain ⟨hx, hb, hml, hown, hts, hnm, hfr, hlo⟩ := id E
                  have hl := S.2.2.2
                  refine W.objInit (rest := r.map (en_rv (ci_ad sz))) hx hb hown (hts _ (en_wd_in hlink)) (hts _ OK.2.2.1) (hts _ OK.2.2.2) rfl (hl.1.trans hml.symm) rfl hd (by rw [hfr]; exact hf1) (by rw [en_sum_map, hlo]; show 2 * 0 + _ + 12 ≤ _; omega) ?_
                  exact IH p e s m args below meth c R z sz cA D lsA ls r H locs C ls1 st1 C1 (pc + 3) n0 s0 NM SM Q hz14 E hK hQ hs0 hN hM h1 S h K
                · cases hobj
            · cases h
          | false =>
            rw [hobj] at h
            dsimp only [cond_false] at h
            split at h
            · rename_i y hy
              obtain ⟨pc, i, len, a, b, j, x⟩ := q
              exact ci_snd E hK hQ hN hM hs0 i pc len a b j x ls st C H locs lsA y hc h1 S hy (fun H1 locs1 lsA1 h2 S1 => IH p e s m args below meth c R z sz cA D lsA1 y.2.1 y.2.2.1 H1 locs1 y.2.2.2 ls1 st1 C1 y.1 n0 s0 NM SM Q hz14 E hK hQ hs0 hN hM h2 S1 h K)
            · cases h
