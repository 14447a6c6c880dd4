/-! the engine is the machine: array copies, calls, ends; a method of the engine is a method of the machine -/
section SN3
variable {p : Program} {l : Launch} {e : Env} {R : Room} {s : State} {m : MethodId} {args : Array Value} {below : List Frame} {meth : Method} {c : Code} {H H0 : Heap} {locs : List Loc} {cells slots : Nat} {Q : State → Prop} {z : Nat} {ad : Nat → Int → Nat} {cA : Nat → ClassId} {D : va_G} {A : Nat → Prop} {lsA : Array Slot}
theorem en_cpy_i {n ns : Nat} {f g : Int → Int} {bs bd : Int} {sp dp k : Nat} (h1 : sp + k ≤ ns) (h2 : dp + k ≤ n) : va_cpy (en_fi ns f bs) (en_fi n g bd) sp dp k = en_fi n (en_cpy f g (bs + sp) (bd + dp) k) bd := by
  funext t
  unfold va_cpy en_fi en_cpy
  by_cases ht : dp ≤ t ∧ t < dp + k
  · rw [if_pos ht, if_pos (by omega), if_pos (by omega), if_pos (by omega)]
    congr 2
    omega
  · rw [if_neg ht]
    by_cases hn : t < n
    · rw [if_pos hn, if_pos hn, if_neg (by omega)]
    · rw [if_neg hn, if_neg hn]
theorem en_cpy_l {n ns : Nat} {f g : Int → Int} {bs bd : Int} {sp dp k : Nat} (h1 : sp + k ≤ ns) (h2 : dp + k ≤ n) : va_cpy (en_fl ns f bs) (en_fl n g bd) sp dp k = en_fl n (en_cpy f g (bs + sp) (bd + dp) k) bd := by
  funext t
  unfold va_cpy en_fl en_cpy
  by_cases ht : dp ≤ t ∧ t < dp + k
  · rw [if_pos ht, if_pos (by omega), if_pos (by omega), if_pos (by omega)]
    congr 2
    omega
  · rw [if_neg ht]
    by_cases hn : t < n
    · rw [if_pos hn, if_pos hn, if_neg (by omega)]
    · rw [if_neg hn, if_neg hn]
theorem en_w1_le (v : en_v) : en_w1 v ≤ 2 := by
  match v with
  | .inl _ => exact Nat.le_succ 1
  | .inr (.inl _) => exact Nat.le_refl 2
  | .inr (.inr _) => exact Nat.le_succ 1
theorem en_sum_map (ad : Nat → Int → Nat) : ∀ r : List en_v, ((r.map (en_rv ad)).map fun v => v.category).sum = en_sum r
  | [] => rfl
  | v :: r => by
    show (en_rv ad v).category + ((r.map (en_rv ad)).map fun v => v.category).sum = en_w1 v + en_sum r
    rw [en_sum_map ad r, en_cat]
theorem en_sum_le : ∀ r : List en_v, en_sum r ≤ 2 * r.length
  | [] => Nat.le_refl 0
  | v :: r => by
    have h1 := en_w1_le v
    have h2 := en_sum_le r
    show en_w1 v + en_sum r ≤ 2 * (r.length + 1)
    omega
set_option maxRecDepth 100000 in
theorem en_aw1 : Cond.native arraycopyName ∈ en_tb := en_tb_in 903 (by decide +kernel) (by decide +kernel)
set_option maxRecDepth 100000 in
theorem en_aw2 : Cond.static arraycopyName ∈ en_tb := en_tb_in 902 (by decide +kernel) (by decide +kernel)
set_option maxRecDepth 100000 in
theorem en_aw3 : Cond.initialized "java/lang/System" ∈ en_tb := en_tb_in 169 (by decide +kernel) (by decide +kernel)
set_option maxRecDepth 100000 in
theorem en_mw1 : Cond.static Lib.Math.max.name ∈ en_tb := en_tb_in 271 (by decide +kernel) (by decide +kernel)
set_option maxRecDepth 100000 in
theorem en_mw2 : Cond.initialized "java/lang/Math" ∈ en_tb := en_tb_in 155 (by decide +kernel) (by decide +kernel)
set_option maxRecDepth 100000 in
theorem en_mw3 : Cond.code Lib.Math.max.name Lib.Math.max.code 2 (some .int) ∈ en_tb := en_tb_in 272 (by decide +kernel) (by decide +kernel)
set_option maxRecDepth 100000 in
theorem en_mw4 : Cond.static Lib.Math.min.name ∈ en_tb := en_tb_in 268 (by decide +kernel) (by decide +kernel)
set_option maxRecDepth 100000 in
theorem en_mw5 : Cond.code Lib.Math.min.name Lib.Math.min.code 2 (some .int) ∈ en_tb := en_tb_in 269 (by decide +kernel) (by decide +kernel)
theorem nu_nn {j : Int} (h : 0 ≤ w32 j) : ¬ Int32.ofInt j < 0 ∧ (Int32.ofInt j).toNatClampNeg = (w32 j).toNat := by
  refine ⟨?_, by rw [← Int32.toNat_toInt, nu_toInt]⟩
  rw [nu_0, nu_lt, nu_w0]
  omega

theorem en_snd_invokestatic (E : en_E z p s m args meth c R) (hK : va_K D classes (en_tys cA) s) {pc len a b j : Nat} {x : Int} {ls : en_l} {st : List en_v} {σ : en_m} {kk : Nat} (hc : en_chk z (pc, .invokestatic kk, len, a, b, j, x) = true) (S : en_S ad cA D A H0 (en_mL z) lsA ls st H locs σ) {y : en_x} (h : en_st (pc, .invokestatic kk, len, a, b, j, x) ls st σ = some y) (K : ∀ (H1 : Heap) (locs1 : List Loc) (lsA1 : Array Slot), en_S ad cA D A H0 (en_mL z) lsA1 y.2.1 y.2.2.1 H1 locs1 y.2.2.2 → W p l e R s m args below meth c H1 locs1 0 0 Q (F0 m y.1 lsA1 (y.2.2.1.map (en_rv ad)))) : W p l e R s m args below meth c H locs 0 0 Q (F0 m pc lsA (st.map (en_rv ad))) := by
  obtain ⟨hx, hb, hml, hown, hts, hr, hlk, hfr, hlo⟩ := E
  obtain ⟨hP, hD, hS, hl, hlok, hsok⟩ := S
  unfold en_chk at hc
  simp only [Bool.and_eq_true, decide_eq_true_eq] at hc
  unfold en_st at h
  dsimp only at h
  obtain ⟨hd, hlen, hc⟩ := hc
  have hlen := Nat.eq_of_beq_eq_true hlen
  subst hlen
  cases hb0 : Nat.beq b 100 with
  | false =>
    rw [hb0] at h hc
    dsimp only [cond_false] at h hc
    cases hb1 : Nat.beq b 101 with
    | true =>
      rw [hb1] at h hc
      dsimp only [cond_true] at h hc
      simp only [Bool.and_eq_true] at hc
      obtain ⟨hw, hf1, hl30⟩ := hc
      have hf1 := Nat.le_of_ble_eq_true hf1
      have hl30 := Nat.le_of_ble_eq_true hl30
      split at h
      · rename_i v u r
        cases hrl : Nat.ble r.length 8 with
        | false => rw [hrl] at h; cases h
        | true =>
          rw [hrl] at h
          cases h
          have hrl := Nat.le_of_ble_eq_true hrl
          have hroom : ((r.map (en_rv ad)).map fun v => v.category).sum + 13 ≤ R.locals := by
            rw [en_sum_map, hlo]
            have := en_sum_le r
            show en_sum r + 13 ≤ en_lo z
            omega
          refine va_mmax hx hb (hml.trans hl.1.symm) hown (hts _ (en_wd_in hw)) (hts _ en_mw1) (hts _ en_mw2) (hts _ en_mw3) (by rw [hfr]; exact hf1) hroom (Nat.zero_le _) (Nat.zero_le _) hd ?_
          have K1 := K H locs lsA ⟨hP, hD, hS, hl, hlok, List.forall_mem_cons.mpr ⟨trivial, fun w hw => hsok w (List.mem_cons_of_mem _ (List.mem_cons_of_mem _ hw))⟩⟩
          by_cases hlt : w32 u < w32 v
          · rw [if_pos ((nu_lt u v).mpr hlt)]
            simp only [if_pos hlt] at K1
            exact K1
          · rw [if_neg (fun q => hlt ((nu_lt u v).mp q))]
            simp only [if_neg hlt] at K1
            exact K1
      · cases h
    | false =>
      rw [hb1] at h hc
      dsimp only [cond_false] at h hc
      cases hb2 : Nat.beq b 102 with
      | true =>
        rw [hb2] at h hc
        dsimp only [cond_true] at h hc
        simp only [Bool.and_eq_true] at hc
        obtain ⟨hw, hf1, hl30⟩ := hc
        have hf1 := Nat.le_of_ble_eq_true hf1
        have hl30 := Nat.le_of_ble_eq_true hl30
        split at h
        · rename_i v u r
          cases hrl : Nat.ble r.length 8 with
          | false => rw [hrl] at h; cases h
          | true =>
            rw [hrl] at h
            cases h
            have hrl := Nat.le_of_ble_eq_true hrl
            have hroom : ((r.map (en_rv ad)).map fun v => v.category).sum + 13 ≤ R.locals := by
              rw [en_sum_map, hlo]
              have := en_sum_le r
              show en_sum r + 13 ≤ en_lo z
              omega
            refine va_mmin hx hb (hml.trans hl.1.symm) hown (hts _ (en_wd_in hw)) (hts _ en_mw4) (hts _ en_mw2) (hts _ en_mw5) (by rw [hfr]; exact hf1) hroom (Nat.zero_le _) (Nat.zero_le _) hd ?_
            have K1 := K H locs lsA ⟨hP, hD, hS, hl, hlok, List.forall_mem_cons.mpr ⟨trivial, fun w hw => hsok w (List.mem_cons_of_mem _ (List.mem_cons_of_mem _ hw))⟩⟩
            by_cases hlt : w32 v < w32 u
            · rw [if_pos ((nu_lt v u).mpr hlt)]
              simp only [if_pos hlt] at K1
              exact K1
            · rw [if_neg (fun q => hlt ((nu_lt v u).mp q))]
              simp only [if_neg hlt] at K1
              exact K1
        · cases h
      | false => rw [hb2] at h; cases h
  | true =>
    rw [hb0] at h hc
    simp only [cond_true, Bool.and_eq_true] at hc
    dsimp only [cond_true] at h
    obtain ⟨hw, hf1, hl30⟩ := hc
    have hf1 := Nat.le_of_ble_eq_true hf1
    have hl30 := Nat.le_of_ble_eq_true hl30
    split at h
    · rename_i n dp kd bd sp ks bs r
      split at h
      · rename_i td nd tD ts nS tS hkd hks
        cases hcond : (Nat.beq td ts && (Nat.beq td 0 || Nat.beq td 3) && Nat.ble r.length 3) with
        | false => rw [hcond] at h; cases h
        | true =>
          rw [hcond] at h
          dsimp only [cond_true] at h
          simp only [Bool.and_eq_true, Bool.or_eq_true] at hcond
          obtain ⟨⟨hts2, ht03⟩, hrl⟩ := hcond
          have hts2 := Nat.eq_of_beq_eq_true hts2
          subst hts2
          have hrl := Nat.le_of_ble_eq_true hrl
          split at h
          · rename_i hcc
            obtain ⟨⟨g1, g2, g3⟩, g4, g5⟩ := hcc
            cases h
            have hqd : (kd, bd) ∈ en_C := hsok _ (List.mem_cons_of_mem _ (List.mem_cons_of_mem _ List.mem_cons_self))
            have hqs : (ks, bs) ∈ en_C := hsok _ (List.mem_cons_of_mem _ (List.mem_cons_of_mem _ (List.mem_cons_of_mem _ (List.mem_cons_of_mem _ List.mem_cons_self))))
            obtain ⟨q1, hq1, hw1⟩ := en_W_at (ad := ad) (cA := cA) (σ := σ) hqd
            obtain ⟨q0, hq0, hw0⟩ := en_W_at (ad := ad) (cA := cA) (σ := σ) hqs
            have hso : ∀ w ∈ r, en_ok w := fun w hw => hsok w (List.mem_cons_of_mem _ (List.mem_cons_of_mem _ (List.mem_cons_of_mem _ (List.mem_cons_of_mem _ (List.mem_cons_of_mem _ hw)))))
            have hen : en_en ad cA σ (kd, bd) = en_ar ad cA (σ kd) bd (td, nd, tD) := by unfold en_en; dsimp only; rw [hkd]
            have hes : en_en ad cA σ (ks, bs) = en_ar ad cA (σ ks) bs (td, nS, tS) := by unfold en_en; dsimp only; rw [hks]
            rw [hen] at hw1
            rw [hes] at hw0
            obtain ⟨n1, e1⟩ := nu_nn g1
            obtain ⟨n2, e2⟩ := nu_nn g2
            obtain ⟨n3, e3⟩ := nu_nn g3
            have hset : (en_W ad cA σ).set q1 (ad kd bd, en_ar ad cA (en_cpy (σ ks) (σ kd) (bs + w32 sp) (bd + w32 dp) (w32 n)) bd (td, nd, tD)) = en_W ad cA (sr σ kd (en_cpy (σ ks) (σ kd) (bs + w32 sp) (bd + w32 dp) (w32 n))) := by
              refine en_W_set hq1 ?_ (en_o_arr hqd hkd (fun x hx => ?_))
              · unfold en_en; dsimp only; rw [hkd, sr_same]
              · unfold en_cpy; rw [if_neg (by omega)]
            have hroom : ((r.map (en_rv ad)).map fun v => v.category).sum + (nativeFrameWords "java/lang/System" "arraycopy" 5 + 11) ≤ R.locals := by
              rw [en_sum_map, hlo]
              have := en_sum_le r
              have e7 : nativeFrameWords "java/lang/System" "arraycopy" 5 = 7 := by decide
              rw [e7]
              show en_sum r + (7 + 11) ≤ en_lo z
              omega
            have hml2 : c.maxLocals = lsA.size := hml.trans hl.1.symm
            rcases ht03 with ht | ht
            · have ht := Nat.eq_of_beq_eq_true ht
              subst ht
              refine va_copyi (ty := .int) hx hb hml2 hown (hts _ (en_wd_in hw)) (hts _ en_aw1) (hts _ en_aw2) (hts _ en_aw3) hK hP hD hS q0 q1 0 0 hw0 hw1 rfl rfl rfl n3 n2 n1 (by rw [e3, e1]; omega) (by rw [e2, e1]; omega) (fun _ _ => rfl) (by rw [hfr]; exact hf1) hroom hd (fun H1 locs1 hP1 hD1 hS1 => ?_)
              have he : va_cpy (en_fi nS (σ ks) bs) (en_fi nd (σ kd) bd) (Int32.ofInt sp).toNatClampNeg (Int32.ofInt dp).toNatClampNeg (Int32.ofInt n).toNatClampNeg = en_fi nd (en_cpy (σ ks) (σ kd) (bs + w32 sp) (bd + w32 dp) (w32 n)) bd := by
                rw [e1, e2, e3, en_cpy_i (by omega) (by omega), en_ofNat g1, en_ofNat g2, en_ofNat g3]
              have hP1 : va_P D classes ((en_W ad cA σ).set q1 (ad kd bd, .inl (cA 0, nd, .inl (va_cpy (en_fi nS (σ ks) bs) (en_fi nd (σ kd) bd) (Int32.ofInt sp).toNatClampNeg (Int32.ofInt dp).toNatClampNeg (Int32.ofInt n).toNatClampNeg)))) H1 := hP1
              have hD1 : va_D A ((en_W ad cA σ).set q1 (ad kd bd, .inl (cA 0, nd, .inl (va_cpy (en_fi nS (σ ks) bs) (en_fi nd (σ kd) bd) (Int32.ofInt sp).toNatClampNeg (Int32.ofInt dp).toNatClampNeg (Int32.ofInt n).toNatClampNeg)))) := hD1
              rw [he] at hP1 hD1
              have hset0 : (en_W ad cA σ).set q1 (ad kd bd, .inl (cA 0, nd, .inl (en_fi nd (en_cpy (σ ks) (σ kd) (bs + w32 sp) (bd + w32 dp) (w32 n)) bd))) = en_W ad cA (sr σ kd (en_cpy (σ ks) (σ kd) (bs + w32 sp) (bd + w32 dp) (w32 n))) := hset
              rw [hset0] at hP1 hD1
              exact K H1 locs1 lsA ⟨hP1, hD1, hS1, hl, hlok, hso⟩
            · have ht := Nat.eq_of_beq_eq_true ht
              subst ht
              refine va_copyl (ty := .long) hx hb hml2 hown (hts _ (en_wd_in hw)) (hts _ en_aw1) (hts _ en_aw2) (hts _ en_aw3) hK hP hD hS q0 q1 3 3 hw0 hw1 rfl rfl rfl n3 n2 n1 (by rw [e3, e1]; omega) (by rw [e2, e1]; omega) (fun _ _ => rfl) (by rw [hfr]; exact hf1) hroom hd (fun H1 locs1 hP1 hD1 hS1 => ?_)
              have he : va_cpy (en_fl nS (σ ks) bs) (en_fl nd (σ kd) bd) (Int32.ofInt sp).toNatClampNeg (Int32.ofInt dp).toNatClampNeg (Int32.ofInt n).toNatClampNeg = en_fl nd (en_cpy (σ ks) (σ kd) (bs + w32 sp) (bd + w32 dp) (w32 n)) bd := by
                rw [e1, e2, e3, en_cpy_l (by omega) (by omega), en_ofNat g1, en_ofNat g2, en_ofNat g3]
              have hP1 : va_P D classes ((en_W ad cA σ).set q1 (ad kd bd, .inl (cA 3, nd, .inr (.inl (va_cpy (en_fl nS (σ ks) bs) (en_fl nd (σ kd) bd) (Int32.ofInt sp).toNatClampNeg (Int32.ofInt dp).toNatClampNeg (Int32.ofInt n).toNatClampNeg))))) H1 := hP1
              have hD1 : va_D A ((en_W ad cA σ).set q1 (ad kd bd, .inl (cA 3, nd, .inr (.inl (va_cpy (en_fl nS (σ ks) bs) (en_fl nd (σ kd) bd) (Int32.ofInt sp).toNatClampNeg (Int32.ofInt dp).toNatClampNeg (Int32.ofInt n).toNatClampNeg))))) := hD1
              rw [he] at hP1 hD1
              have hset0 : (en_W ad cA σ).set q1 (ad kd bd, .inl (cA 3, nd, .inr (.inl (en_fl nd (en_cpy (σ ks) (σ kd) (bs + w32 sp) (bd + w32 dp) (w32 n)) bd)))) = en_W ad cA (sr σ kd (en_cpy (σ ks) (σ kd) (bs + w32 sp) (bd + w32 dp) (w32 n))) := hset
              rw [hset0] at hP1 hD1
              exact K H1 locs1 lsA ⟨hP1, hD1, hS1, hl, hlok, hso⟩
          · cases h
      · cases h
    · cases h
set_option maxHeartbeats 8000000 in
/-- one instruction, whichever -/
theorem en_snd (E : en_E z p s m args meth c R) (hK : va_K D classes (en_tys cA) s) {q : en_q} {ls : en_l} {st : List en_v} {σ : en_m} (hc : en_chk z q = true) (S : en_S ad cA D A H0 (en_mL z) lsA ls st H locs σ) {y : en_x} (h : en_st q ls st σ = some y) (K : ∀ (H1 : Heap) (locs1 : List Loc) (lsA1 : Array Slot), en_S ad cA D A H0 (en_mL z) lsA1 y.2.1 y.2.2.1 H1 locs1 y.2.2.2 → W p l e R s m args below meth c H1 locs1 0 0 Q (F0 m y.1 lsA1 (y.2.2.1.map (en_rv ad)))) : W p l e R s m args below meth c H locs 0 0 Q (F0 m q.1 lsA (st.map (en_rv ad))) := by
  obtain ⟨pc, i, len, a, b, j, x⟩ := q
  cases i
  case aload_n x0 => exact en_snd_aload_n E hK hc S h K
  case iload_n x0 => exact en_snd_iload_n E hK hc S h K
  case lload_n x0 => exact en_snd_lload_n E hK hc S h K
  case aload x0 => exact en_snd_aload E hK hc S h K
  case iload x0 => exact en_snd_iload E hK hc S h K
  case lload x0 => exact en_snd_lload E hK hc S h K
  case istore_n x0 => exact en_snd_istore_n E hK hc S h K
  case astore_n x0 => exact en_snd_astore_n E hK hc S h K
  case lstore_n x0 => exact en_snd_lstore_n E hK hc S h K
  case istore x0 => exact en_snd_istore E hK hc S h K
  case astore x0 => exact en_snd_astore E hK hc S h K
  case lstore x0 => exact en_snd_lstore E hK hc S h K
  case iconst x0 => exact en_snd_iconst E hK hc S h K
  case bipush x0 => exact en_snd_bipush E hK hc S h K
  case sipush x0 => exact en_snd_sipush E hK hc S h K
  case ldc x0 => exact en_snd_ldc E hK hc S h K
  case ldc_w x0 => exact en_snd_ldc_w E hK hc S h K
  case ldc2_w x0 => exact en_snd_ldc2_w E hK hc S h K
  case lconst x0 => exact en_snd_lconst E hK hc S h K
  case iadd => exact en_snd_iadd E hK hc S h K
  case isub => exact en_snd_isub E hK hc S h K
  case imul => exact en_snd_imul E hK hc S h K
  case ladd => exact en_snd_ladd E hK hc S h K
  case lsub => exact en_snd_lsub E hK hc S h K
  case lmul => exact en_snd_lmul E hK hc S h K
  case ineg => exact en_snd_ineg E hK hc S h K
  case lneg => exact en_snd_lneg E hK hc S h K
  case idiv => exact en_snd_idiv E hK hc S h K
  case irem => exact en_snd_irem E hK hc S h K
  case lrem => exact en_snd_lrem E hK hc S h K
  case iand => exact en_snd_iand E hK hc S h K
  case ishr => exact en_snd_ishr E hK hc S h K
  case land => exact en_snd_land E hK hc S h K
  case lor => exact en_snd_lor E hK hc S h K
  case lshl => exact en_snd_lshl E hK hc S h K
  case lshr => exact en_snd_lshr E hK hc S h K
  case i2l => exact en_snd_i2l E hK hc S h K
  case l2i => exact en_snd_l2i E hK hc S h K
  case i2b => exact en_snd_i2b E hK hc S h K
  case lcmp => exact en_snd_lcmp E hK hc S h K
  case dup => exact en_snd_dup E hK hc S h K
  case dup2 => exact en_snd_dup2 E hK hc S h K
  case pop => exact en_snd_pop E hK hc S h K
  case goto x0 => exact en_snd_goto E hK hc S h K
  case iinc x0 x1 => exact en_snd_iinc E hK hc S h K
  case if_icmp x0 x1 => exact en_snd_if_icmp E hK hc S h K
  case ifCond x0 x1 => exact en_snd_ifCond E hK hc S h K
  case arraylength => exact en_snd_arraylength E hK hc S h K
  case iaload => exact en_snd_iaload E hK hc S h K
  case baload => exact en_snd_baload E hK hc S h K
  case laload => exact en_snd_laload E hK hc S h K
  case aaload => exact en_snd_aaload E hK hc S h K
  case iastore => exact en_snd_iastore E hK hc S h K
  case bastore => exact en_snd_bastore E hK hc S h K
  case lastore => exact en_snd_lastore E hK hc S h K
  case getfield x0 => exact en_snd_getfield E hK hc S h K
  case putfield x0 => exact en_snd_putfield E hK hc S h K
  case tableswitch x0 x1 x2 x3 => exact en_snd_tableswitch E hK hc S h K
  case lookupswitch x0 x1 => exact en_snd_lookupswitch E hK hc S h K
  case invokestatic x0 => exact en_snd_invokestatic E hK hc S h K
  all_goals exact absurd h (fun h => by cases h)
end SN3
