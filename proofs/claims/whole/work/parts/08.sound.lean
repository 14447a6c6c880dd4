/-! one instruction of the engine is one of the machine -/
abbrev en_B (z : Nat) : ByteArray := (en_D z).2.1
abbrev en_mL (z : Nat) : Nat := (en_D z).2.2.1
abbrev en_rt (z : Nat) : Option FieldType := (en_D z).2.2.2.1
abbrev en_fr (z : Nat) : Nat := (en_D z).2.2.2.2.1
abbrev en_lo (z : Nat) : Nat := (en_D z).2.2.2.2.2.1
abbrev en_na (z : Nat) : Nat := (en_D z).2.2.2.2.2.2.1
abbrev en_is (z : Nat) : Bool := (en_D z).2.2.2.2.2.2.2.1
abbrev en_cw (z : Nat) : Nat := (en_D z).2.2.2.2.2.2.2.2.1
abbrev en_iw (z : Nat) : Nat := (en_D z).2.2.2.2.2.2.2.2.2.1
abbrev en_sw (z : Nat) : Nat := (en_D z).2.2.2.2.2.2.2.2.2.2.1
abbrev en_nw (z : Nat) : Nat := (en_D z).2.2.2.2.2.2.2.2.2.2.2
abbrev en_y (z : Nat) : MethodName := (en_D z).1
def en_wd (j : Nat) (w : Cond) : Bool := decide (lw_tbl[j]? = some w) && goodWord w
theorem en_wd_in {j : Nat} {w : Cond} (h : en_wd j w = true) : w ∈ en_tb := by
  unfold en_wd at h
  simp only [Bool.and_eq_true, decide_eq_true_eq] at h
  exact en_tb_in j h.1 h.2
def en_fld (c b : Nat) : String × String × String × Bool := match classes[c]? with
  | some q => q.2.1 b
  | none => ("", "", "", true)
def en_fN (c : Nat) : Nat := match classes[c]? with
  | some q => q.2.2
  | none => 0
/-- what a call's instruction needs of the caller z and the called a -/
def en_cc (z a b j : Nat) (idx : Nat) (st : Bool) : Bool := en_wd j (.methodLink (en_y z).cls idx (en_y a)) && Nat.beq b (en_na a) && Nat.ble (en_fr a + 1) (en_fr z) && Nat.ble (8 + (en_mL a + 11) + en_lo a) (en_lo z) && (en_is a == st) && Nat.blt a 332
def en_chk (z : Nat) (q : en_q) : Bool := match q with
  | (pc, i, len, a, b, j, x) => decide (decode (en_B z) pc = .ok (i, len)) && (match i with
    | .aload_n k | .iload_n k | .lload_n k => Nat.beq len 1 && Nat.beq k.val a
    | .istore_n k | .astore_n k => Nat.beq len 1 && (Nat.beq k.val a && Nat.blt a (en_mL z))
    | .lstore_n k => Nat.beq len 1 && (Nat.beq k.val a && Nat.blt (a + 1) (en_mL z))
    | .aload k | .iload k | .lload k => Nat.beq len 2 && Nat.beq k a
    | .istore k | .astore k => Nat.beq len 2 && (Nat.beq k a && Nat.blt a (en_mL z))
    | .lstore k => Nat.beq len 2 && (Nat.beq k a && Nat.blt (a + 1) (en_mL z))
    | .iconst _ => Nat.beq len 1
    | .bipush n => Nat.beq len 2 && decide ((Int8.ofInt n).toInt32 = Int32.ofInt n)
    | .sipush n => Nat.beq len 3 && decide ((Int16.ofInt n).toInt32 = Int32.ofInt n)
    | .ldc idx => bif Nat.beq b 0 then Nat.beq len 2 && en_wd j (.constant (en_y z).cls idx (Int32.ofInt x)) else true
    | .ldc_w idx => bif Nat.beq b 0 then Nat.beq len 3 && en_wd j (.constant (en_y z).cls idx (Int32.ofInt x)) else true
    | .ldc2_w idx => Nat.beq len 3 && en_wd j (.constantLong (en_y z).cls idx (Int64.ofInt x))
    | .lconst n => Nat.beq len 1 && decide (Int64.ofNat n.val = Int64.ofInt x)
    | .iadd | .isub | .imul | .idiv | .irem | .ineg | .iand | .ishr | .ladd | .lsub | .lmul | .lrem | .lneg | .land | .lor | .lshl | .lshr | .i2l | .l2i | .i2b | .lcmp | .dup | .dup2 | .pop | .arraylength | .iaload | .baload | .laload | .aaload | .iastore | .bastore | .lastore => Nat.beq len 1
    | .goto off => Nat.beq len 3 && decide ((pc : Int) + off = (a : Int))
    | .iinc n _ => Nat.beq len 3 && Nat.blt n (en_mL z)
    | .ifCond _ off | .if_icmp _ off => Nat.beq len 3 && decide ((pc : Int) + off = (a : Int))
    | .tableswitch d _ _ offs => decide (0 ≤ (pc : Int) + d) && offs.toList.all (fun o => decide (0 ≤ (pc : Int) + o))
    | .lookupswitch d ps => decide (0 ≤ (pc : Int) + d) && (ps.toList.all (fun o => decide (0 ≤ (pc : Int) + o.2)) && (ps.toList.zip (ps.toList.drop 1)).all (fun (a, next) => a.1 < next.1))
    | .getfield idx => Nat.beq len 3 && (en_wd j (.fieldLink (en_y z).cls idx (en_fld a b).1 (en_fld a b).2.1 (en_fld a b).2.2.1) && Nat.blt b (en_fN a))
    | .putfield idx => Nat.beq len 3 && (en_wd j (.fieldLink (en_y z).cls idx (en_fld a b).1 (en_fld a b).2.1 (en_fld a b).2.2.1) && (Nat.blt b (en_fN a) && !(en_fld a b).2.2.2))
    | .invokevirtual idx => Nat.beq len 3 && (en_cc z a b j idx false && decide ((classes[x.toNat]?).map (fun q => q.1) = some (en_y a).cls))
    | .invokestatic idx => Nat.beq len 3 && (bif Nat.beq b 100 then en_wd j (.methodLink (en_y z).cls idx arraycopyName) && (Nat.ble 1 (en_fr z) && Nat.ble 30 (en_lo z)) else bif Nat.beq b 101 then en_wd j (.methodLink (en_y z).cls idx Lib.Math.max.name) && (Nat.ble 1 (en_fr z) && Nat.ble 30 (en_lo z)) else bif Nat.beq b 102 then en_wd j (.methodLink (en_y z).cls idx Lib.Math.min.name) && (Nat.ble 1 (en_fr z) && Nat.ble 30 (en_lo z)) else en_cc z a b j idx true)
    | .ireturn => Nat.beq len 1 && (bif Nat.beq b 1 then decide (en_rt z = some .boolean) else decide (en_rt z = some .int))
    | .lreturn => Nat.beq len 1 && decide (en_rt z = some .long)
    | .areturn => Nat.beq len 1 && (match en_rt z with
      | some (.object _) => true
      | some (.array _) => true
      | _ => false)
    | .return_ => Nat.beq len 1 && decide (en_rt z = none)
    | _ => false)
def en_E (z : Nat) (p : Program) (s : State) (m : MethodId) (args : Array Value) (meth : Method) (c : Code) (R : Room) : Prop := p.tables.exec = Jvm.exec ∧ c.code = en_B z ∧ c.maxLocals = en_mL z ∧ s.vm.findClass (en_y z).cls = some m.cls ∧ (∀ w ∈ en_tb, w.before args s = true) ∧ meth.sig.returnType = en_rt z ∧ meth.locks = false ∧ R.frames = en_fr z ∧ R.locals = en_lo z
def en_S (ad : Nat → Int → Nat) (cA : Nat → ClassId) (D : va_G) (A : Nat → Prop) (H0 : Heap) (n : Nat) (lsA : Array Slot) (ls : en_l) (st : List en_v) (H : Heap) (locs : List Loc) (σ : en_m) : Prop := va_P D classes (en_W ad cA σ) H ∧ va_D A (en_W ad cA σ) ∧ va_S A H0 H locs ∧ en_lh ad lsA n ls ∧ en_lok ls ∧ ∀ v ∈ st, en_ok v
section SN1
variable {p : Program} {l : Launch} {e : Env} {R : Room} {s : State} {m : MethodId} {args : Array Value} {below : List Frame} {meth : Method} {c : Code} {H H0 : Heap} {locs : List Loc} {cells slots : Nat} {Q : State → Prop} {z : Nat} {ad : Nat → Int → Nat} {cA : Nat → ClassId} {D : va_G} {A : Nat → Prop} {lsA : Array Slot}

theorem en_snd_aload_n (E : en_E z p s m args meth c R) (hK : va_K D classes (en_tys cA) s) {pc len a b j : Nat} {x : Int} {ls : en_l} {st : List en_v} {σ : en_m} {kk : Fin 4} (hc : en_chk z (pc, .aload_n kk, len, a, b, j, x) = true) (S : en_S ad cA D A H0 (en_mL z) lsA ls st H locs σ) {y : en_x} (h : en_st (pc, .aload_n kk, len, a, b, j, x) ls st σ = some y) (K : ∀ (H1 : Heap) (locs1 : List Loc) (lsA1 : Array Slot), en_S ad cA D A H0 (en_mL z) lsA1 y.2.1 y.2.2.1 H1 locs1 y.2.2.2 → W p l e R s m args below meth c H1 locs1 0 0 Q (F0 m y.1 lsA1 (y.2.2.1.map (en_rv ad)))) : W p l e R s m args below meth c H locs 0 0 Q (F0 m pc lsA (st.map (en_rv ad))) := by
  obtain ⟨hx, hb, hml, hown, hts, hr, hlk, hfr, hlo⟩ := E
  obtain ⟨hP, hD, hS, hl, hlok, hsok⟩ := S
  unfold en_chk at hc
  simp only [Bool.and_eq_true, decide_eq_true_eq] at hc
  unfold en_st at h
  dsimp only at h
  obtain ⟨hd, hlen, hi⟩ := hc
  have hlen := Nat.eq_of_beq_eq_true hlen
  have hi := Nat.eq_of_beq_eq_true hi
  subst hlen
  split at h
  · rename_i r hg
    cases h
    refine lv_aload_n hx hb hd hi (hl.2.2 _ _ hg) ?_
    exact K H locs lsA ⟨hP, hD, hS, hl, hlok, List.forall_mem_cons.mpr ⟨hlok _ _ hg, hsok⟩⟩
  · cases h
theorem en_snd_iload_n (E : en_E z p s m args meth c R) (hK : va_K D classes (en_tys cA) s) {pc len a b j : Nat} {x : Int} {ls : en_l} {st : List en_v} {σ : en_m} {kk : Fin 4} (hc : en_chk z (pc, .iload_n kk, len, a, b, j, x) = true) (S : en_S ad cA D A H0 (en_mL z) lsA ls st H locs σ) {y : en_x} (h : en_st (pc, .iload_n kk, len, a, b, j, x) ls st σ = some y) (K : ∀ (H1 : Heap) (locs1 : List Loc) (lsA1 : Array Slot), en_S ad cA D A H0 (en_mL z) lsA1 y.2.1 y.2.2.1 H1 locs1 y.2.2.2 → W p l e R s m args below meth c H1 locs1 0 0 Q (F0 m y.1 lsA1 (y.2.2.1.map (en_rv ad)))) : W p l e R s m args below meth c H locs 0 0 Q (F0 m pc lsA (st.map (en_rv ad))) := by
  obtain ⟨hx, hb, hml, hown, hts, hr, hlk, hfr, hlo⟩ := E
  obtain ⟨hP, hD, hS, hl, hlok, hsok⟩ := S
  unfold en_chk at hc
  simp only [Bool.and_eq_true, decide_eq_true_eq] at hc
  unfold en_st at h
  dsimp only at h
  obtain ⟨hd, hlen, hi⟩ := hc
  have hlen := Nat.eq_of_beq_eq_true hlen
  have hi := Nat.eq_of_beq_eq_true hi
  subst hlen
  split at h
  · rename_i r hg
    cases h
    refine lv_iload_n hx hb hd hi (hl.2.2 _ _ hg) ?_
    exact K H locs lsA ⟨hP, hD, hS, hl, hlok, List.forall_mem_cons.mpr ⟨hlok _ _ hg, hsok⟩⟩
  · cases h
theorem en_snd_lload_n (E : en_E z p s m args meth c R) (hK : va_K D classes (en_tys cA) s) {pc len a b j : Nat} {x : Int} {ls : en_l} {st : List en_v} {σ : en_m} {kk : Fin 4} (hc : en_chk z (pc, .lload_n kk, len, a, b, j, x) = true) (S : en_S ad cA D A H0 (en_mL z) lsA ls st H locs σ) {y : en_x} (h : en_st (pc, .lload_n kk, len, a, b, j, x) ls st σ = some y) (K : ∀ (H1 : Heap) (locs1 : List Loc) (lsA1 : Array Slot), en_S ad cA D A H0 (en_mL z) lsA1 y.2.1 y.2.2.1 H1 locs1 y.2.2.2 → W p l e R s m args below meth c H1 locs1 0 0 Q (F0 m y.1 lsA1 (y.2.2.1.map (en_rv ad)))) : W p l e R s m args below meth c H locs 0 0 Q (F0 m pc lsA (st.map (en_rv ad))) := by
  obtain ⟨hx, hb, hml, hown, hts, hr, hlk, hfr, hlo⟩ := E
  obtain ⟨hP, hD, hS, hl, hlok, hsok⟩ := S
  unfold en_chk at hc
  simp only [Bool.and_eq_true, decide_eq_true_eq] at hc
  unfold en_st at h
  dsimp only at h
  obtain ⟨hd, hlen, hi⟩ := hc
  have hlen := Nat.eq_of_beq_eq_true hlen
  have hi := Nat.eq_of_beq_eq_true hi
  subst hlen
  split at h
  · rename_i r hg
    cases h
    refine lv_lload_n hx hb hd hi (hl.2.2 _ _ hg) ?_
    exact K H locs lsA ⟨hP, hD, hS, hl, hlok, List.forall_mem_cons.mpr ⟨hlok _ _ hg, hsok⟩⟩
  · cases h
theorem en_snd_aload (E : en_E z p s m args meth c R) (hK : va_K D classes (en_tys cA) s) {pc len a b j : Nat} {x : Int} {ls : en_l} {st : List en_v} {σ : en_m} {kk : Nat} (hc : en_chk z (pc, .aload kk, len, a, b, j, x) = true) (S : en_S ad cA D A H0 (en_mL z) lsA ls st H locs σ) {y : en_x} (h : en_st (pc, .aload kk, len, a, b, j, x) ls st σ = some y) (K : ∀ (H1 : Heap) (locs1 : List Loc) (lsA1 : Array Slot), en_S ad cA D A H0 (en_mL z) lsA1 y.2.1 y.2.2.1 H1 locs1 y.2.2.2 → W p l e R s m args below meth c H1 locs1 0 0 Q (F0 m y.1 lsA1 (y.2.2.1.map (en_rv ad)))) : W p l e R s m args below meth c H locs 0 0 Q (F0 m pc lsA (st.map (en_rv ad))) := by
  obtain ⟨hx, hb, hml, hown, hts, hr, hlk, hfr, hlo⟩ := E
  obtain ⟨hP, hD, hS, hl, hlok, hsok⟩ := S
  unfold en_chk at hc
  simp only [Bool.and_eq_true, decide_eq_true_eq] at hc
  unfold en_st at h
  dsimp only at h
  obtain ⟨hd, hlen, hi⟩ := hc
  have hlen := Nat.eq_of_beq_eq_true hlen
  have hi := Nat.eq_of_beq_eq_true hi
  subst hlen
  subst hi
  split at h
  · rename_i r hg
    cases h
    refine lv_aload hx hb hd (hl.2.2 _ _ hg) ?_
    exact K H locs lsA ⟨hP, hD, hS, hl, hlok, List.forall_mem_cons.mpr ⟨hlok _ _ hg, hsok⟩⟩
  · cases h
theorem en_snd_iload (E : en_E z p s m args meth c R) (hK : va_K D classes (en_tys cA) s) {pc len a b j : Nat} {x : Int} {ls : en_l} {st : List en_v} {σ : en_m} {kk : Nat} (hc : en_chk z (pc, .iload kk, len, a, b, j, x) = true) (S : en_S ad cA D A H0 (en_mL z) lsA ls st H locs σ) {y : en_x} (h : en_st (pc, .iload kk, len, a, b, j, x) ls st σ = some y) (K : ∀ (H1 : Heap) (locs1 : List Loc) (lsA1 : Array Slot), en_S ad cA D A H0 (en_mL z) lsA1 y.2.1 y.2.2.1 H1 locs1 y.2.2.2 → W p l e R s m args below meth c H1 locs1 0 0 Q (F0 m y.1 lsA1 (y.2.2.1.map (en_rv ad)))) : W p l e R s m args below meth c H locs 0 0 Q (F0 m pc lsA (st.map (en_rv ad))) := by
  obtain ⟨hx, hb, hml, hown, hts, hr, hlk, hfr, hlo⟩ := E
  obtain ⟨hP, hD, hS, hl, hlok, hsok⟩ := S
  unfold en_chk at hc
  simp only [Bool.and_eq_true, decide_eq_true_eq] at hc
  unfold en_st at h
  dsimp only at h
  obtain ⟨hd, hlen, hi⟩ := hc
  have hlen := Nat.eq_of_beq_eq_true hlen
  have hi := Nat.eq_of_beq_eq_true hi
  subst hlen
  subst hi
  split at h
  · rename_i r hg
    cases h
    refine lv_iload hx hb hd (hl.2.2 _ _ hg) ?_
    exact K H locs lsA ⟨hP, hD, hS, hl, hlok, List.forall_mem_cons.mpr ⟨hlok _ _ hg, hsok⟩⟩
  · cases h
theorem en_snd_lload (E : en_E z p s m args meth c R) (hK : va_K D classes (en_tys cA) s) {pc len a b j : Nat} {x : Int} {ls : en_l} {st : List en_v} {σ : en_m} {kk : Nat} (hc : en_chk z (pc, .lload kk, len, a, b, j, x) = true) (S : en_S ad cA D A H0 (en_mL z) lsA ls st H locs σ) {y : en_x} (h : en_st (pc, .lload kk, len, a, b, j, x) ls st σ = some y) (K : ∀ (H1 : Heap) (locs1 : List Loc) (lsA1 : Array Slot), en_S ad cA D A H0 (en_mL z) lsA1 y.2.1 y.2.2.1 H1 locs1 y.2.2.2 → W p l e R s m args below meth c H1 locs1 0 0 Q (F0 m y.1 lsA1 (y.2.2.1.map (en_rv ad)))) : W p l e R s m args below meth c H locs 0 0 Q (F0 m pc lsA (st.map (en_rv ad))) := by
  obtain ⟨hx, hb, hml, hown, hts, hr, hlk, hfr, hlo⟩ := E
  obtain ⟨hP, hD, hS, hl, hlok, hsok⟩ := S
  unfold en_chk at hc
  simp only [Bool.and_eq_true, decide_eq_true_eq] at hc
  unfold en_st at h
  dsimp only at h
  obtain ⟨hd, hlen, hi⟩ := hc
  have hlen := Nat.eq_of_beq_eq_true hlen
  have hi := Nat.eq_of_beq_eq_true hi
  subst hlen
  subst hi
  split at h
  · rename_i r hg
    cases h
    refine lv_lload hx hb hd (hl.2.2 _ _ hg) ?_
    exact K H locs lsA ⟨hP, hD, hS, hl, hlok, List.forall_mem_cons.mpr ⟨hlok _ _ hg, hsok⟩⟩
  · cases h
theorem en_snd_istore_n (E : en_E z p s m args meth c R) (hK : va_K D classes (en_tys cA) s) {pc len a b j : Nat} {x : Int} {ls : en_l} {st : List en_v} {σ : en_m} {kk : Fin 4} (hc : en_chk z (pc, .istore_n kk, len, a, b, j, x) = true) (S : en_S ad cA D A H0 (en_mL z) lsA ls st H locs σ) {y : en_x} (h : en_st (pc, .istore_n kk, len, a, b, j, x) ls st σ = some y) (K : ∀ (H1 : Heap) (locs1 : List Loc) (lsA1 : Array Slot), en_S ad cA D A H0 (en_mL z) lsA1 y.2.1 y.2.2.1 H1 locs1 y.2.2.2 → W p l e R s m args below meth c H1 locs1 0 0 Q (F0 m y.1 lsA1 (y.2.2.1.map (en_rv ad)))) : W p l e R s m args below meth c H locs 0 0 Q (F0 m pc lsA (st.map (en_rv ad))) := by
  obtain ⟨hx, hb, hml, hown, hts, hr, hlk, hfr, hlo⟩ := E
  obtain ⟨hP, hD, hS, hl, hlok, hsok⟩ := S
  unfold en_chk at hc
  simp only [Bool.and_eq_true, decide_eq_true_eq] at hc
  unfold en_st at h
  dsimp only at h
  obtain ⟨hd, hlen, hi, hn⟩ := hc
  have hlen := Nat.eq_of_beq_eq_true hlen
  have hi := Nat.eq_of_beq_eq_true hi
  have hn := Nat.le_of_ble_eq_true hn
  subst hlen
  split at h
  · rename_i v r
    cases h
    obtain ⟨ho, hso⟩ := List.forall_mem_cons.mp hsok
    refine lv_istore_n hx hb hd hi (en_lh_has hl) hn rfl (fun ls' hl' => ?_)
    exact K H locs ls' ⟨hP, hD, hS, en_lh_s1 (v := (.inl v)) hl', en_lok_s1 hlok ho, hso⟩
  · cases h
theorem en_snd_astore_n (E : en_E z p s m args meth c R) (hK : va_K D classes (en_tys cA) s) {pc len a b j : Nat} {x : Int} {ls : en_l} {st : List en_v} {σ : en_m} {kk : Fin 4} (hc : en_chk z (pc, .astore_n kk, len, a, b, j, x) = true) (S : en_S ad cA D A H0 (en_mL z) lsA ls st H locs σ) {y : en_x} (h : en_st (pc, .astore_n kk, len, a, b, j, x) ls st σ = some y) (K : ∀ (H1 : Heap) (locs1 : List Loc) (lsA1 : Array Slot), en_S ad cA D A H0 (en_mL z) lsA1 y.2.1 y.2.2.1 H1 locs1 y.2.2.2 → W p l e R s m args below meth c H1 locs1 0 0 Q (F0 m y.1 lsA1 (y.2.2.1.map (en_rv ad)))) : W p l e R s m args below meth c H locs 0 0 Q (F0 m pc lsA (st.map (en_rv ad))) := by
  obtain ⟨hx, hb, hml, hown, hts, hr, hlk, hfr, hlo⟩ := E
  obtain ⟨hP, hD, hS, hl, hlok, hsok⟩ := S
  unfold en_chk at hc
  simp only [Bool.and_eq_true, decide_eq_true_eq] at hc
  unfold en_st at h
  dsimp only at h
  obtain ⟨hd, hlen, hi, hn⟩ := hc
  have hlen := Nat.eq_of_beq_eq_true hlen
  have hi := Nat.eq_of_beq_eq_true hi
  have hn := Nat.le_of_ble_eq_true hn
  subst hlen
  split at h
  · rename_i v r
    cases h
    obtain ⟨ho, hso⟩ := List.forall_mem_cons.mp hsok
    refine lv_astore_n hx hb hd hi (en_lh_has hl) hn rfl (fun ls' hl' => ?_)
    exact K H locs ls' ⟨hP, hD, hS, en_lh_s1 (v := (.inr (.inr v))) hl', en_lok_s1 hlok ho, hso⟩
  · cases h
theorem en_snd_lstore_n (E : en_E z p s m args meth c R) (hK : va_K D classes (en_tys cA) s) {pc len a b j : Nat} {x : Int} {ls : en_l} {st : List en_v} {σ : en_m} {kk : Fin 4} (hc : en_chk z (pc, .lstore_n kk, len, a, b, j, x) = true) (S : en_S ad cA D A H0 (en_mL z) lsA ls st H locs σ) {y : en_x} (h : en_st (pc, .lstore_n kk, len, a, b, j, x) ls st σ = some y) (K : ∀ (H1 : Heap) (locs1 : List Loc) (lsA1 : Array Slot), en_S ad cA D A H0 (en_mL z) lsA1 y.2.1 y.2.2.1 H1 locs1 y.2.2.2 → W p l e R s m args below meth c H1 locs1 0 0 Q (F0 m y.1 lsA1 (y.2.2.1.map (en_rv ad)))) : W p l e R s m args below meth c H locs 0 0 Q (F0 m pc lsA (st.map (en_rv ad))) := by
  obtain ⟨hx, hb, hml, hown, hts, hr, hlk, hfr, hlo⟩ := E
  obtain ⟨hP, hD, hS, hl, hlok, hsok⟩ := S
  unfold en_chk at hc
  simp only [Bool.and_eq_true, decide_eq_true_eq] at hc
  unfold en_st at h
  dsimp only at h
  obtain ⟨hd, hlen, hi, hn⟩ := hc
  have hlen := Nat.eq_of_beq_eq_true hlen
  have hi := Nat.eq_of_beq_eq_true hi
  have hn := Nat.le_of_ble_eq_true hn
  subst hlen
  split at h
  · rename_i v r
    cases h
    obtain ⟨ho, hso⟩ := List.forall_mem_cons.mp hsok
    refine lv_lstore_n hx hb hd hi (en_lh_has hl) hn rfl (fun ls' hl' => ?_)
    exact K H locs ls' ⟨hP, hD, hS, en_lh_s2 (v := (.inr (.inl v))) hl', en_lok_s2 hlok ho, hso⟩
  · cases h
theorem en_snd_istore (E : en_E z p s m args meth c R) (hK : va_K D classes (en_tys cA) s) {pc len a b j : Nat} {x : Int} {ls : en_l} {st : List en_v} {σ : en_m} {kk : Nat} (hc : en_chk z (pc, .istore kk, len, a, b, j, x) = true) (S : en_S ad cA D A H0 (en_mL z) lsA ls st H locs σ) {y : en_x} (h : en_st (pc, .istore kk, len, a, b, j, x) ls st σ = some y) (K : ∀ (H1 : Heap) (locs1 : List Loc) (lsA1 : Array Slot), en_S ad cA D A H0 (en_mL z) lsA1 y.2.1 y.2.2.1 H1 locs1 y.2.2.2 → W p l e R s m args below meth c H1 locs1 0 0 Q (F0 m y.1 lsA1 (y.2.2.1.map (en_rv ad)))) : W p l e R s m args below meth c H locs 0 0 Q (F0 m pc lsA (st.map (en_rv ad))) := by
  obtain ⟨hx, hb, hml, hown, hts, hr, hlk, hfr, hlo⟩ := E
  obtain ⟨hP, hD, hS, hl, hlok, hsok⟩ := S
  unfold en_chk at hc
  simp only [Bool.and_eq_true, decide_eq_true_eq] at hc
  unfold en_st at h
  dsimp only at h
  obtain ⟨hd, hlen, hi, hn⟩ := hc
  have hlen := Nat.eq_of_beq_eq_true hlen
  have hi := Nat.eq_of_beq_eq_true hi
  have hn := Nat.le_of_ble_eq_true hn
  subst hlen
  subst hi
  split at h
  · rename_i v r
    cases h
    obtain ⟨ho, hso⟩ := List.forall_mem_cons.mp hsok
    refine lv_istore hx hb hd (en_lh_has hl) hn rfl (fun ls' hl' => ?_)
    exact K H locs ls' ⟨hP, hD, hS, en_lh_s1 (v := (.inl v)) hl', en_lok_s1 hlok ho, hso⟩
  · cases h
theorem en_snd_astore (E : en_E z p s m args meth c R) (hK : va_K D classes (en_tys cA) s) {pc len a b j : Nat} {x : Int} {ls : en_l} {st : List en_v} {σ : en_m} {kk : Nat} (hc : en_chk z (pc, .astore kk, len, a, b, j, x) = true) (S : en_S ad cA D A H0 (en_mL z) lsA ls st H locs σ) {y : en_x} (h : en_st (pc, .astore kk, len, a, b, j, x) ls st σ = some y) (K : ∀ (H1 : Heap) (locs1 : List Loc) (lsA1 : Array Slot), en_S ad cA D A H0 (en_mL z) lsA1 y.2.1 y.2.2.1 H1 locs1 y.2.2.2 → W p l e R s m args below meth c H1 locs1 0 0 Q (F0 m y.1 lsA1 (y.2.2.1.map (en_rv ad)))) : W p l e R s m args below meth c H locs 0 0 Q (F0 m pc lsA (st.map (en_rv ad))) := by
  obtain ⟨hx, hb, hml, hown, hts, hr, hlk, hfr, hlo⟩ := E
  obtain ⟨hP, hD, hS, hl, hlok, hsok⟩ := S
  unfold en_chk at hc
  simp only [Bool.and_eq_true, decide_eq_true_eq] at hc
  unfold en_st at h
  dsimp only at h
  obtain ⟨hd, hlen, hi, hn⟩ := hc
  have hlen := Nat.eq_of_beq_eq_true hlen
  have hi := Nat.eq_of_beq_eq_true hi
  have hn := Nat.le_of_ble_eq_true hn
  subst hlen
  subst hi
  split at h
  · rename_i v r
    cases h
    obtain ⟨ho, hso⟩ := List.forall_mem_cons.mp hsok
    refine lv_astore hx hb hd (en_lh_has hl) hn rfl (fun ls' hl' => ?_)
    exact K H locs ls' ⟨hP, hD, hS, en_lh_s1 (v := (.inr (.inr v))) hl', en_lok_s1 hlok ho, hso⟩
  · cases h
theorem en_snd_lstore (E : en_E z p s m args meth c R) (hK : va_K D classes (en_tys cA) s) {pc len a b j : Nat} {x : Int} {ls : en_l} {st : List en_v} {σ : en_m} {kk : Nat} (hc : en_chk z (pc, .lstore kk, len, a, b, j, x) = true) (S : en_S ad cA D A H0 (en_mL z) lsA ls st H locs σ) {y : en_x} (h : en_st (pc, .lstore kk, len, a, b, j, x) ls st σ = some y) (K : ∀ (H1 : Heap) (locs1 : List Loc) (lsA1 : Array Slot), en_S ad cA D A H0 (en_mL z) lsA1 y.2.1 y.2.2.1 H1 locs1 y.2.2.2 → W p l e R s m args below meth c H1 locs1 0 0 Q (F0 m y.1 lsA1 (y.2.2.1.map (en_rv ad)))) : W p l e R s m args below meth c H locs 0 0 Q (F0 m pc lsA (st.map (en_rv ad))) := by
  obtain ⟨hx, hb, hml, hown, hts, hr, hlk, hfr, hlo⟩ := E
  obtain ⟨hP, hD, hS, hl, hlok, hsok⟩ := S
  unfold en_chk at hc
  simp only [Bool.and_eq_true, decide_eq_true_eq] at hc
  unfold en_st at h
  dsimp only at h
  obtain ⟨hd, hlen, hi, hn⟩ := hc
  have hlen := Nat.eq_of_beq_eq_true hlen
  have hi := Nat.eq_of_beq_eq_true hi
  have hn := Nat.le_of_ble_eq_true hn
  subst hlen
  subst hi
  split at h
  · rename_i v r
    cases h
    obtain ⟨ho, hso⟩ := List.forall_mem_cons.mp hsok
    refine lv_lstore hx hb hd (en_lh_has hl) hn rfl (fun ls' hl' => ?_)
    exact K H locs ls' ⟨hP, hD, hS, en_lh_s2 (v := (.inr (.inl v))) hl', en_lok_s2 hlok ho, hso⟩
  · cases h
theorem en_snd_iconst (E : en_E z p s m args meth c R) (hK : va_K D classes (en_tys cA) s) {pc len a b j : Nat} {x : Int} {ls : en_l} {st : List en_v} {σ : en_m} {kk : Int} (hc : en_chk z (pc, .iconst kk, len, a, b, j, x) = true) (S : en_S ad cA D A H0 (en_mL z) lsA ls st H locs σ) {y : en_x} (h : en_st (pc, .iconst kk, len, a, b, j, x) ls st σ = some y) (K : ∀ (H1 : Heap) (locs1 : List Loc) (lsA1 : Array Slot), en_S ad cA D A H0 (en_mL z) lsA1 y.2.1 y.2.2.1 H1 locs1 y.2.2.2 → W p l e R s m args below meth c H1 locs1 0 0 Q (F0 m y.1 lsA1 (y.2.2.1.map (en_rv ad)))) : W p l e R s m args below meth c H locs 0 0 Q (F0 m pc lsA (st.map (en_rv ad))) := by
  obtain ⟨hx, hb, hml, hown, hts, hr, hlk, hfr, hlo⟩ := E
  obtain ⟨hP, hD, hS, hl, hlok, hsok⟩ := S
  unfold en_chk at hc
  simp only [Bool.and_eq_true, decide_eq_true_eq] at hc
  unfold en_st at h
  dsimp only at h
  obtain ⟨hd, hlen⟩ := hc
  have hlen := Nat.eq_of_beq_eq_true hlen
  subst hlen
  cases h
  refine lv_iconst hx hb hd rfl ?_
  exact K H locs lsA ⟨hP, hD, hS, hl, hlok, List.forall_mem_cons.mpr ⟨trivial, hsok⟩⟩
theorem en_snd_bipush (E : en_E z p s m args meth c R) (hK : va_K D classes (en_tys cA) s) {pc len a b j : Nat} {x : Int} {ls : en_l} {st : List en_v} {σ : en_m} {kk : Int} (hc : en_chk z (pc, .bipush kk, len, a, b, j, x) = true) (S : en_S ad cA D A H0 (en_mL z) lsA ls st H locs σ) {y : en_x} (h : en_st (pc, .bipush kk, len, a, b, j, x) ls st σ = some y) (K : ∀ (H1 : Heap) (locs1 : List Loc) (lsA1 : Array Slot), en_S ad cA D A H0 (en_mL z) lsA1 y.2.1 y.2.2.1 H1 locs1 y.2.2.2 → W p l e R s m args below meth c H1 locs1 0 0 Q (F0 m y.1 lsA1 (y.2.2.1.map (en_rv ad)))) : W p l e R s m args below meth c H locs 0 0 Q (F0 m pc lsA (st.map (en_rv ad))) := by
  obtain ⟨hx, hb, hml, hown, hts, hr, hlk, hfr, hlo⟩ := E
  obtain ⟨hP, hD, hS, hl, hlok, hsok⟩ := S
  unfold en_chk at hc
  simp only [Bool.and_eq_true, decide_eq_true_eq] at hc
  unfold en_st at h
  dsimp only at h
  obtain ⟨hd, hlen, hv⟩ := hc
  have hlen := Nat.eq_of_beq_eq_true hlen
  subst hlen
  cases h
  refine lv_bipush hx hb hd hv ?_
  exact K H locs lsA ⟨hP, hD, hS, hl, hlok, List.forall_mem_cons.mpr ⟨trivial, hsok⟩⟩
theorem en_snd_sipush (E : en_E z p s m args meth c R) (hK : va_K D classes (en_tys cA) s) {pc len a b j : Nat} {x : Int} {ls : en_l} {st : List en_v} {σ : en_m} {kk : Int} (hc : en_chk z (pc, .sipush kk, len, a, b, j, x) = true) (S : en_S ad cA D A H0 (en_mL z) lsA ls st H locs σ) {y : en_x} (h : en_st (pc, .sipush kk, len, a, b, j, x) ls st σ = some y) (K : ∀ (H1 : Heap) (locs1 : List Loc) (lsA1 : Array Slot), en_S ad cA D A H0 (en_mL z) lsA1 y.2.1 y.2.2.1 H1 locs1 y.2.2.2 → W p l e R s m args below meth c H1 locs1 0 0 Q (F0 m y.1 lsA1 (y.2.2.1.map (en_rv ad)))) : W p l e R s m args below meth c H locs 0 0 Q (F0 m pc lsA (st.map (en_rv ad))) := by
  obtain ⟨hx, hb, hml, hown, hts, hr, hlk, hfr, hlo⟩ := E
  obtain ⟨hP, hD, hS, hl, hlok, hsok⟩ := S
  unfold en_chk at hc
  simp only [Bool.and_eq_true, decide_eq_true_eq] at hc
  unfold en_st at h
  dsimp only at h
  obtain ⟨hd, hlen, hv⟩ := hc
  have hlen := Nat.eq_of_beq_eq_true hlen
  subst hlen
  cases h
  refine lv_sipush hx hb hd hv ?_
  exact K H locs lsA ⟨hP, hD, hS, hl, hlok, List.forall_mem_cons.mpr ⟨trivial, hsok⟩⟩
theorem en_snd_ldc (E : en_E z p s m args meth c R) (hK : va_K D classes (en_tys cA) s) {pc len a b j : Nat} {x : Int} {ls : en_l} {st : List en_v} {σ : en_m} {kk : Nat} (hc : en_chk z (pc, .ldc kk, len, a, b, j, x) = true) (S : en_S ad cA D A H0 (en_mL z) lsA ls st H locs σ) {y : en_x} (h : en_st (pc, .ldc kk, len, a, b, j, x) ls st σ = some y) (K : ∀ (H1 : Heap) (locs1 : List Loc) (lsA1 : Array Slot), en_S ad cA D A H0 (en_mL z) lsA1 y.2.1 y.2.2.1 H1 locs1 y.2.2.2 → W p l e R s m args below meth c H1 locs1 0 0 Q (F0 m y.1 lsA1 (y.2.2.1.map (en_rv ad)))) : W p l e R s m args below meth c H locs 0 0 Q (F0 m pc lsA (st.map (en_rv ad))) := by
  obtain ⟨hx, hb, hml, hown, hts, hr, hlk, hfr, hlo⟩ := E
  obtain ⟨hP, hD, hS, hl, hlok, hsok⟩ := S
  unfold en_chk at hc
  simp only [Bool.and_eq_true, decide_eq_true_eq] at hc
  unfold en_st at h
  dsimp only at h
  obtain ⟨hd, hc⟩ := hc
  cases hb0 : Nat.beq b 0 with
  | false => rw [hb0] at h; cases h
  | true =>
    rw [hb0] at h hc
    simp only [cond_true, Bool.and_eq_true] at hc
    obtain ⟨hlen, hw⟩ := hc
    have hlen := Nat.eq_of_beq_eq_true hlen
    subst hlen
    cases h
    refine lv_ldc hx hb hown (hts _ (en_wd_in hw)) hd ?_
    exact K H locs lsA ⟨hP, hD, hS, hl, hlok, List.forall_mem_cons.mpr ⟨trivial, hsok⟩⟩
theorem en_snd_ldc_w (E : en_E z p s m args meth c R) (hK : va_K D classes (en_tys cA) s) {pc len a b j : Nat} {x : Int} {ls : en_l} {st : List en_v} {σ : en_m} {kk : Nat} (hc : en_chk z (pc, .ldc_w kk, len, a, b, j, x) = true) (S : en_S ad cA D A H0 (en_mL z) lsA ls st H locs σ) {y : en_x} (h : en_st (pc, .ldc_w kk, len, a, b, j, x) ls st σ = some y) (K : ∀ (H1 : Heap) (locs1 : List Loc) (lsA1 : Array Slot), en_S ad cA D A H0 (en_mL z) lsA1 y.2.1 y.2.2.1 H1 locs1 y.2.2.2 → W p l e R s m args below meth c H1 locs1 0 0 Q (F0 m y.1 lsA1 (y.2.2.1.map (en_rv ad)))) : W p l e R s m args below meth c H locs 0 0 Q (F0 m pc lsA (st.map (en_rv ad))) := by
  obtain ⟨hx, hb, hml, hown, hts, hr, hlk, hfr, hlo⟩ := E
  obtain ⟨hP, hD, hS, hl, hlok, hsok⟩ := S
  unfold en_chk at hc
  simp only [Bool.and_eq_true, decide_eq_true_eq] at hc
  unfold en_st at h
  dsimp only at h
  obtain ⟨hd, hc⟩ := hc
  cases hb0 : Nat.beq b 0 with
  | false => rw [hb0] at h; cases h
  | true =>
    rw [hb0] at h hc
    simp only [cond_true, Bool.and_eq_true] at hc
    obtain ⟨hlen, hw⟩ := hc
    have hlen := Nat.eq_of_beq_eq_true hlen
    subst hlen
    cases h
    refine lv_ldcw hx hb hown (hts _ (en_wd_in hw)) hd ?_
    exact K H locs lsA ⟨hP, hD, hS, hl, hlok, List.forall_mem_cons.mpr ⟨trivial, hsok⟩⟩
theorem en_snd_ldc2_w (E : en_E z p s m args meth c R) (hK : va_K D classes (en_tys cA) s) {pc len a b j : Nat} {x : Int} {ls : en_l} {st : List en_v} {σ : en_m} {kk : Nat} (hc : en_chk z (pc, .ldc2_w kk, len, a, b, j, x) = true) (S : en_S ad cA D A H0 (en_mL z) lsA ls st H locs σ) {y : en_x} (h : en_st (pc, .ldc2_w kk, len, a, b, j, x) ls st σ = some y) (K : ∀ (H1 : Heap) (locs1 : List Loc) (lsA1 : Array Slot), en_S ad cA D A H0 (en_mL z) lsA1 y.2.1 y.2.2.1 H1 locs1 y.2.2.2 → W p l e R s m args below meth c H1 locs1 0 0 Q (F0 m y.1 lsA1 (y.2.2.1.map (en_rv ad)))) : W p l e R s m args below meth c H locs 0 0 Q (F0 m pc lsA (st.map (en_rv ad))) := by
  obtain ⟨hx, hb, hml, hown, hts, hr, hlk, hfr, hlo⟩ := E
  obtain ⟨hP, hD, hS, hl, hlok, hsok⟩ := S
  unfold en_chk at hc
  simp only [Bool.and_eq_true, decide_eq_true_eq] at hc
  unfold en_st at h
  dsimp only at h
  obtain ⟨hd, hlen, hw⟩ := hc
  have hlen := Nat.eq_of_beq_eq_true hlen
  subst hlen
  cases h
  refine lv_ldc2 hx hb hown (hts _ (en_wd_in hw)) hd ?_
  exact K H locs lsA ⟨hP, hD, hS, hl, hlok, List.forall_mem_cons.mpr ⟨trivial, hsok⟩⟩
theorem en_snd_lconst (E : en_E z p s m args meth c R) (hK : va_K D classes (en_tys cA) s) {pc len a b j : Nat} {x : Int} {ls : en_l} {st : List en_v} {σ : en_m} {kk : Fin 2} (hc : en_chk z (pc, .lconst kk, len, a, b, j, x) = true) (S : en_S ad cA D A H0 (en_mL z) lsA ls st H locs σ) {y : en_x} (h : en_st (pc, .lconst kk, len, a, b, j, x) ls st σ = some y) (K : ∀ (H1 : Heap) (locs1 : List Loc) (lsA1 : Array Slot), en_S ad cA D A H0 (en_mL z) lsA1 y.2.1 y.2.2.1 H1 locs1 y.2.2.2 → W p l e R s m args below meth c H1 locs1 0 0 Q (F0 m y.1 lsA1 (y.2.2.1.map (en_rv ad)))) : W p l e R s m args below meth c H locs 0 0 Q (F0 m pc lsA (st.map (en_rv ad))) := by
  obtain ⟨hx, hb, hml, hown, hts, hr, hlk, hfr, hlo⟩ := E
  obtain ⟨hP, hD, hS, hl, hlok, hsok⟩ := S
  unfold en_chk at hc
  simp only [Bool.and_eq_true, decide_eq_true_eq] at hc
  unfold en_st at h
  dsimp only at h
  obtain ⟨hd, hlen, hv⟩ := hc
  have hlen := Nat.eq_of_beq_eq_true hlen
  subst hlen
  cases h
  refine lv_lconst hx hb hd hv ?_
  exact K H locs lsA ⟨hP, hD, hS, hl, hlok, List.forall_mem_cons.mpr ⟨trivial, hsok⟩⟩
theorem en_snd_iadd (E : en_E z p s m args meth c R) (hK : va_K D classes (en_tys cA) s) {pc len a b j : Nat} {x : Int} {ls : en_l} {st : List en_v} {σ : en_m}  (hc : en_chk z (pc, .iadd, len, a, b, j, x) = true) (S : en_S ad cA D A H0 (en_mL z) lsA ls st H locs σ) {y : en_x} (h : en_st (pc, .iadd, len, a, b, j, x) ls st σ = some y) (K : ∀ (H1 : Heap) (locs1 : List Loc) (lsA1 : Array Slot), en_S ad cA D A H0 (en_mL z) lsA1 y.2.1 y.2.2.1 H1 locs1 y.2.2.2 → W p l e R s m args below meth c H1 locs1 0 0 Q (F0 m y.1 lsA1 (y.2.2.1.map (en_rv ad)))) : W p l e R s m args below meth c H locs 0 0 Q (F0 m pc lsA (st.map (en_rv ad))) := by
  obtain ⟨hx, hb, hml, hown, hts, hr, hlk, hfr, hlo⟩ := E
  obtain ⟨hP, hD, hS, hl, hlok, hsok⟩ := S
  unfold en_chk at hc
  simp only [Bool.and_eq_true, decide_eq_true_eq] at hc
  unfold en_st at h
  dsimp only at h
  obtain ⟨hd, hlen⟩ := hc
  have hlen := Nat.eq_of_beq_eq_true hlen
  subst hlen
  split at h
  · rename_i v u r
    cases h
    refine lv_iadd hx hb hd ?_
    rw [nu_add]
    exact K H locs lsA ⟨hP, hD, hS, hl, hlok, List.forall_mem_cons.mpr ⟨trivial, fun w hw => hsok w (List.mem_cons_of_mem _ (List.mem_cons_of_mem _ hw))⟩⟩
  · cases h
theorem en_snd_isub (E : en_E z p s m args meth c R) (hK : va_K D classes (en_tys cA) s) {pc len a b j : Nat} {x : Int} {ls : en_l} {st : List en_v} {σ : en_m}  (hc : en_chk z (pc, .isub, len, a, b, j, x) = true) (S : en_S ad cA D A H0 (en_mL z) lsA ls st H locs σ) {y : en_x} (h : en_st (pc, .isub, len, a, b, j, x) ls st σ = some y) (K : ∀ (H1 : Heap) (locs1 : List Loc) (lsA1 : Array Slot), en_S ad cA D A H0 (en_mL z) lsA1 y.2.1 y.2.2.1 H1 locs1 y.2.2.2 → W p l e R s m args below meth c H1 locs1 0 0 Q (F0 m y.1 lsA1 (y.2.2.1.map (en_rv ad)))) : W p l e R s m args below meth c H locs 0 0 Q (F0 m pc lsA (st.map (en_rv ad))) := by
  obtain ⟨hx, hb, hml, hown, hts, hr, hlk, hfr, hlo⟩ := E
  obtain ⟨hP, hD, hS, hl, hlok, hsok⟩ := S
  unfold en_chk at hc
  simp only [Bool.and_eq_true, decide_eq_true_eq] at hc
  unfold en_st at h
  dsimp only at h
  obtain ⟨hd, hlen⟩ := hc
  have hlen := Nat.eq_of_beq_eq_true hlen
  subst hlen
  split at h
  · rename_i v u r
    cases h
    refine lv_isub hx hb hd ?_
    rw [nu_sub]
    exact K H locs lsA ⟨hP, hD, hS, hl, hlok, List.forall_mem_cons.mpr ⟨trivial, fun w hw => hsok w (List.mem_cons_of_mem _ (List.mem_cons_of_mem _ hw))⟩⟩
  · cases h
theorem en_snd_imul (E : en_E z p s m args meth c R) (hK : va_K D classes (en_tys cA) s) {pc len a b j : Nat} {x : Int} {ls : en_l} {st : List en_v} {σ : en_m}  (hc : en_chk z (pc, .imul, len, a, b, j, x) = true) (S : en_S ad cA D A H0 (en_mL z) lsA ls st H locs σ) {y : en_x} (h : en_st (pc, .imul, len, a, b, j, x) ls st σ = some y) (K : ∀ (H1 : Heap) (locs1 : List Loc) (lsA1 : Array Slot), en_S ad cA D A H0 (en_mL z) lsA1 y.2.1 y.2.2.1 H1 locs1 y.2.2.2 → W p l e R s m args below meth c H1 locs1 0 0 Q (F0 m y.1 lsA1 (y.2.2.1.map (en_rv ad)))) : W p l e R s m args below meth c H locs 0 0 Q (F0 m pc lsA (st.map (en_rv ad))) := by
  obtain ⟨hx, hb, hml, hown, hts, hr, hlk, hfr, hlo⟩ := E
  obtain ⟨hP, hD, hS, hl, hlok, hsok⟩ := S
  unfold en_chk at hc
  simp only [Bool.and_eq_true, decide_eq_true_eq] at hc
  unfold en_st at h
  dsimp only at h
  obtain ⟨hd, hlen⟩ := hc
  have hlen := Nat.eq_of_beq_eq_true hlen
  subst hlen
  split at h
  · rename_i v u r
    cases h
    refine lv_imul hx hb hd ?_
    rw [nu_mul]
    exact K H locs lsA ⟨hP, hD, hS, hl, hlok, List.forall_mem_cons.mpr ⟨trivial, fun w hw => hsok w (List.mem_cons_of_mem _ (List.mem_cons_of_mem _ hw))⟩⟩
  · cases h
theorem en_snd_ladd (E : en_E z p s m args meth c R) (hK : va_K D classes (en_tys cA) s) {pc len a b j : Nat} {x : Int} {ls : en_l} {st : List en_v} {σ : en_m}  (hc : en_chk z (pc, .ladd, len, a, b, j, x) = true) (S : en_S ad cA D A H0 (en_mL z) lsA ls st H locs σ) {y : en_x} (h : en_st (pc, .ladd, len, a, b, j, x) ls st σ = some y) (K : ∀ (H1 : Heap) (locs1 : List Loc) (lsA1 : Array Slot), en_S ad cA D A H0 (en_mL z) lsA1 y.2.1 y.2.2.1 H1 locs1 y.2.2.2 → W p l e R s m args below meth c H1 locs1 0 0 Q (F0 m y.1 lsA1 (y.2.2.1.map (en_rv ad)))) : W p l e R s m args below meth c H locs 0 0 Q (F0 m pc lsA (st.map (en_rv ad))) := by
  obtain ⟨hx, hb, hml, hown, hts, hr, hlk, hfr, hlo⟩ := E
  obtain ⟨hP, hD, hS, hl, hlok, hsok⟩ := S
  unfold en_chk at hc
  simp only [Bool.and_eq_true, decide_eq_true_eq] at hc
  unfold en_st at h
  dsimp only at h
  obtain ⟨hd, hlen⟩ := hc
  have hlen := Nat.eq_of_beq_eq_true hlen
  subst hlen
  split at h
  · rename_i v u r
    cases h
    refine lv_ladd hx hb hd ?_
    rw [nu_addl]
    exact K H locs lsA ⟨hP, hD, hS, hl, hlok, List.forall_mem_cons.mpr ⟨trivial, fun w hw => hsok w (List.mem_cons_of_mem _ (List.mem_cons_of_mem _ hw))⟩⟩
  · cases h
theorem en_snd_lsub (E : en_E z p s m args meth c R) (hK : va_K D classes (en_tys cA) s) {pc len a b j : Nat} {x : Int} {ls : en_l} {st : List en_v} {σ : en_m}  (hc : en_chk z (pc, .lsub, len, a, b, j, x) = true) (S : en_S ad cA D A H0 (en_mL z) lsA ls st H locs σ) {y : en_x} (h : en_st (pc, .lsub, len, a, b, j, x) ls st σ = some y) (K : ∀ (H1 : Heap) (locs1 : List Loc) (lsA1 : Array Slot), en_S ad cA D A H0 (en_mL z) lsA1 y.2.1 y.2.2.1 H1 locs1 y.2.2.2 → W p l e R s m args below meth c H1 locs1 0 0 Q (F0 m y.1 lsA1 (y.2.2.1.map (en_rv ad)))) : W p l e R s m args below meth c H locs 0 0 Q (F0 m pc lsA (st.map (en_rv ad))) := by
  obtain ⟨hx, hb, hml, hown, hts, hr, hlk, hfr, hlo⟩ := E
  obtain ⟨hP, hD, hS, hl, hlok, hsok⟩ := S
  unfold en_chk at hc
  simp only [Bool.and_eq_true, decide_eq_true_eq] at hc
  unfold en_st at h
  dsimp only at h
  obtain ⟨hd, hlen⟩ := hc
  have hlen := Nat.eq_of_beq_eq_true hlen
  subst hlen
  split at h
  · rename_i v u r
    cases h
    refine lv_lsub hx hb hd ?_
    rw [nu_subl]
    exact K H locs lsA ⟨hP, hD, hS, hl, hlok, List.forall_mem_cons.mpr ⟨trivial, fun w hw => hsok w (List.mem_cons_of_mem _ (List.mem_cons_of_mem _ hw))⟩⟩
  · cases h
theorem en_snd_lmul (E : en_E z p s m args meth c R) (hK : va_K D classes (en_tys cA) s) {pc len a b j : Nat} {x : Int} {ls : en_l} {st : List en_v} {σ : en_m}  (hc : en_chk z (pc, .lmul, len, a, b, j, x) = true) (S : en_S ad cA D A H0 (en_mL z) lsA ls st H locs σ) {y : en_x} (h : en_st (pc, .lmul, len, a, b, j, x) ls st σ = some y) (K : ∀ (H1 : Heap) (locs1 : List Loc) (lsA1 : Array Slot), en_S ad cA D A H0 (en_mL z) lsA1 y.2.1 y.2.2.1 H1 locs1 y.2.2.2 → W p l e R s m args below meth c H1 locs1 0 0 Q (F0 m y.1 lsA1 (y.2.2.1.map (en_rv ad)))) : W p l e R s m args below meth c H locs 0 0 Q (F0 m pc lsA (st.map (en_rv ad))) := by
  obtain ⟨hx, hb, hml, hown, hts, hr, hlk, hfr, hlo⟩ := E
  obtain ⟨hP, hD, hS, hl, hlok, hsok⟩ := S
  unfold en_chk at hc
  simp only [Bool.and_eq_true, decide_eq_true_eq] at hc
  unfold en_st at h
  dsimp only at h
  obtain ⟨hd, hlen⟩ := hc
  have hlen := Nat.eq_of_beq_eq_true hlen
  subst hlen
  split at h
  · rename_i v u r
    cases h
    refine lv_lmul hx hb hd ?_
    rw [nu_mull]
    exact K H locs lsA ⟨hP, hD, hS, hl, hlok, List.forall_mem_cons.mpr ⟨trivial, fun w hw => hsok w (List.mem_cons_of_mem _ (List.mem_cons_of_mem _ hw))⟩⟩
  · cases h
theorem en_snd_ineg (E : en_E z p s m args meth c R) (hK : va_K D classes (en_tys cA) s) {pc len a b j : Nat} {x : Int} {ls : en_l} {st : List en_v} {σ : en_m}  (hc : en_chk z (pc, .ineg, len, a, b, j, x) = true) (S : en_S ad cA D A H0 (en_mL z) lsA ls st H locs σ) {y : en_x} (h : en_st (pc, .ineg, len, a, b, j, x) ls st σ = some y) (K : ∀ (H1 : Heap) (locs1 : List Loc) (lsA1 : Array Slot), en_S ad cA D A H0 (en_mL z) lsA1 y.2.1 y.2.2.1 H1 locs1 y.2.2.2 → W p l e R s m args below meth c H1 locs1 0 0 Q (F0 m y.1 lsA1 (y.2.2.1.map (en_rv ad)))) : W p l e R s m args below meth c H locs 0 0 Q (F0 m pc lsA (st.map (en_rv ad))) := by
  obtain ⟨hx, hb, hml, hown, hts, hr, hlk, hfr, hlo⟩ := E
  obtain ⟨hP, hD, hS, hl, hlok, hsok⟩ := S
  unfold en_chk at hc
  simp only [Bool.and_eq_true, decide_eq_true_eq] at hc
  unfold en_st at h
  dsimp only at h
  obtain ⟨hd, hlen⟩ := hc
  have hlen := Nat.eq_of_beq_eq_true hlen
  subst hlen
  split at h
  · rename_i u r
    cases h
    refine lv_ineg hx hb hd ?_
    rw [nu_neg]
    exact K H locs lsA ⟨hP, hD, hS, hl, hlok, List.forall_mem_cons.mpr ⟨trivial, fun w hw => hsok w (List.mem_cons_of_mem _ hw)⟩⟩
  · cases h
theorem en_snd_lneg (E : en_E z p s m args meth c R) (hK : va_K D classes (en_tys cA) s) {pc len a b j : Nat} {x : Int} {ls : en_l} {st : List en_v} {σ : en_m}  (hc : en_chk z (pc, .lneg, len, a, b, j, x) = true) (S : en_S ad cA D A H0 (en_mL z) lsA ls st H locs σ) {y : en_x} (h : en_st (pc, .lneg, len, a, b, j, x) ls st σ = some y) (K : ∀ (H1 : Heap) (locs1 : List Loc) (lsA1 : Array Slot), en_S ad cA D A H0 (en_mL z) lsA1 y.2.1 y.2.2.1 H1 locs1 y.2.2.2 → W p l e R s m args below meth c H1 locs1 0 0 Q (F0 m y.1 lsA1 (y.2.2.1.map (en_rv ad)))) : W p l e R s m args below meth c H locs 0 0 Q (F0 m pc lsA (st.map (en_rv ad))) := by
  obtain ⟨hx, hb, hml, hown, hts, hr, hlk, hfr, hlo⟩ := E
  obtain ⟨hP, hD, hS, hl, hlok, hsok⟩ := S
  unfold en_chk at hc
  simp only [Bool.and_eq_true, decide_eq_true_eq] at hc
  unfold en_st at h
  dsimp only at h
  obtain ⟨hd, hlen⟩ := hc
  have hlen := Nat.eq_of_beq_eq_true hlen
  subst hlen
  split at h
  · rename_i u r
    cases h
    refine lv_lneg hx hb hd ?_
    rw [nu_negl]
    exact K H locs lsA ⟨hP, hD, hS, hl, hlok, List.forall_mem_cons.mpr ⟨trivial, fun w hw => hsok w (List.mem_cons_of_mem _ hw)⟩⟩
  · cases h
theorem en_snd_idiv (E : en_E z p s m args meth c R) (hK : va_K D classes (en_tys cA) s) {pc len a b j : Nat} {x : Int} {ls : en_l} {st : List en_v} {σ : en_m}  (hc : en_chk z (pc, .idiv, len, a, b, j, x) = true) (S : en_S ad cA D A H0 (en_mL z) lsA ls st H locs σ) {y : en_x} (h : en_st (pc, .idiv, len, a, b, j, x) ls st σ = some y) (K : ∀ (H1 : Heap) (locs1 : List Loc) (lsA1 : Array Slot), en_S ad cA D A H0 (en_mL z) lsA1 y.2.1 y.2.2.1 H1 locs1 y.2.2.2 → W p l e R s m args below meth c H1 locs1 0 0 Q (F0 m y.1 lsA1 (y.2.2.1.map (en_rv ad)))) : W p l e R s m args below meth c H locs 0 0 Q (F0 m pc lsA (st.map (en_rv ad))) := by
  obtain ⟨hx, hb, hml, hown, hts, hr, hlk, hfr, hlo⟩ := E
  obtain ⟨hP, hD, hS, hl, hlok, hsok⟩ := S
  unfold en_chk at hc
  simp only [Bool.and_eq_true, decide_eq_true_eq] at hc
  unfold en_st at h
  dsimp only at h
  obtain ⟨hd, hlen⟩ := hc
  have hlen := Nat.eq_of_beq_eq_true hlen
  subst hlen
  split at h
  · rename_i v u r
    split at h
    · cases h
    · rename_i hne
      cases h
      refine lv_idiv hx hb hd (nu_ne0 hne) ?_
      rw [nu_div]
      exact K H locs lsA ⟨hP, hD, hS, hl, hlok, List.forall_mem_cons.mpr ⟨trivial, fun w hw => hsok w (List.mem_cons_of_mem _ (List.mem_cons_of_mem _ hw))⟩⟩
  · cases h
theorem en_snd_irem (E : en_E z p s m args meth c R) (hK : va_K D classes (en_tys cA) s) {pc len a b j : Nat} {x : Int} {ls : en_l} {st : List en_v} {σ : en_m}  (hc : en_chk z (pc, .irem, len, a, b, j, x) = true) (S : en_S ad cA D A H0 (en_mL z) lsA ls st H locs σ) {y : en_x} (h : en_st (pc, .irem, len, a, b, j, x) ls st σ = some y) (K : ∀ (H1 : Heap) (locs1 : List Loc) (lsA1 : Array Slot), en_S ad cA D A H0 (en_mL z) lsA1 y.2.1 y.2.2.1 H1 locs1 y.2.2.2 → W p l e R s m args below meth c H1 locs1 0 0 Q (F0 m y.1 lsA1 (y.2.2.1.map (en_rv ad)))) : W p l e R s m args below meth c H locs 0 0 Q (F0 m pc lsA (st.map (en_rv ad))) := by
  obtain ⟨hx, hb, hml, hown, hts, hr, hlk, hfr, hlo⟩ := E
  obtain ⟨hP, hD, hS, hl, hlok, hsok⟩ := S
  unfold en_chk at hc
  simp only [Bool.and_eq_true, decide_eq_true_eq] at hc
  unfold en_st at h
  dsimp only at h
  obtain ⟨hd, hlen⟩ := hc
  have hlen := Nat.eq_of_beq_eq_true hlen
  subst hlen
  split at h
  · rename_i v u r
    split at h
    · cases h
    · rename_i hne
      cases h
      refine lv_irem hx hb hd (nu_ne0 hne) ?_
      rw [nu_rem]
      exact K H locs lsA ⟨hP, hD, hS, hl, hlok, List.forall_mem_cons.mpr ⟨trivial, fun w hw => hsok w (List.mem_cons_of_mem _ (List.mem_cons_of_mem _ hw))⟩⟩
  · cases h
theorem en_snd_lrem (E : en_E z p s m args meth c R) (hK : va_K D classes (en_tys cA) s) {pc len a b j : Nat} {x : Int} {ls : en_l} {st : List en_v} {σ : en_m}  (hc : en_chk z (pc, .lrem, len, a, b, j, x) = true) (S : en_S ad cA D A H0 (en_mL z) lsA ls st H locs σ) {y : en_x} (h : en_st (pc, .lrem, len, a, b, j, x) ls st σ = some y) (K : ∀ (H1 : Heap) (locs1 : List Loc) (lsA1 : Array Slot), en_S ad cA D A H0 (en_mL z) lsA1 y.2.1 y.2.2.1 H1 locs1 y.2.2.2 → W p l e R s m args below meth c H1 locs1 0 0 Q (F0 m y.1 lsA1 (y.2.2.1.map (en_rv ad)))) : W p l e R s m args below meth c H locs 0 0 Q (F0 m pc lsA (st.map (en_rv ad))) := by
  obtain ⟨hx, hb, hml, hown, hts, hr, hlk, hfr, hlo⟩ := E
  obtain ⟨hP, hD, hS, hl, hlok, hsok⟩ := S
  unfold en_chk at hc
  simp only [Bool.and_eq_true, decide_eq_true_eq] at hc
  unfold en_st at h
  dsimp only at h
  obtain ⟨hd, hlen⟩ := hc
  have hlen := Nat.eq_of_beq_eq_true hlen
  subst hlen
  split at h
  · rename_i v u r
    split at h
    · cases h
    · rename_i hne
      cases h
      refine lv_lrem hx hb hd (nu_ne0l hne) ?_
      rw [nu_reml]
      exact K H locs lsA ⟨hP, hD, hS, hl, hlok, List.forall_mem_cons.mpr ⟨trivial, fun w hw => hsok w (List.mem_cons_of_mem _ (List.mem_cons_of_mem _ hw))⟩⟩
  · cases h
theorem en_snd_iand (E : en_E z p s m args meth c R) (hK : va_K D classes (en_tys cA) s) {pc len a b j : Nat} {x : Int} {ls : en_l} {st : List en_v} {σ : en_m}  (hc : en_chk z (pc, .iand, len, a, b, j, x) = true) (S : en_S ad cA D A H0 (en_mL z) lsA ls st H locs σ) {y : en_x} (h : en_st (pc, .iand, len, a, b, j, x) ls st σ = some y) (K : ∀ (H1 : Heap) (locs1 : List Loc) (lsA1 : Array Slot), en_S ad cA D A H0 (en_mL z) lsA1 y.2.1 y.2.2.1 H1 locs1 y.2.2.2 → W p l e R s m args below meth c H1 locs1 0 0 Q (F0 m y.1 lsA1 (y.2.2.1.map (en_rv ad)))) : W p l e R s m args below meth c H locs 0 0 Q (F0 m pc lsA (st.map (en_rv ad))) := by
  obtain ⟨hx, hb, hml, hown, hts, hr, hlk, hfr, hlo⟩ := E
  obtain ⟨hP, hD, hS, hl, hlok, hsok⟩ := S
  unfold en_chk at hc
  simp only [Bool.and_eq_true, decide_eq_true_eq] at hc
  unfold en_st at h
  dsimp only at h
  obtain ⟨hd, hlen⟩ := hc
  have hlen := Nat.eq_of_beq_eq_true hlen
  subst hlen
  split at h
  · rename_i v u r
    cases h
    refine lv_iand hx hb hd ?_
    have K1 := K H locs lsA ⟨hP, hD, hS, hl, hlok, List.forall_mem_cons.mpr ⟨trivial, fun w hw => hsok w (List.mem_cons_of_mem _ (List.mem_cons_of_mem _ hw))⟩⟩
    simp only [List.map_cons, en_rv, en_iand, nu_bv] at K1
    exact K1
  · cases h
theorem en_snd_ishr (E : en_E z p s m args meth c R) (hK : va_K D classes (en_tys cA) s) {pc len a b j : Nat} {x : Int} {ls : en_l} {st : List en_v} {σ : en_m}  (hc : en_chk z (pc, .ishr, len, a, b, j, x) = true) (S : en_S ad cA D A H0 (en_mL z) lsA ls st H locs σ) {y : en_x} (h : en_st (pc, .ishr, len, a, b, j, x) ls st σ = some y) (K : ∀ (H1 : Heap) (locs1 : List Loc) (lsA1 : Array Slot), en_S ad cA D A H0 (en_mL z) lsA1 y.2.1 y.2.2.1 H1 locs1 y.2.2.2 → W p l e R s m args below meth c H1 locs1 0 0 Q (F0 m y.1 lsA1 (y.2.2.1.map (en_rv ad)))) : W p l e R s m args below meth c H locs 0 0 Q (F0 m pc lsA (st.map (en_rv ad))) := by
  obtain ⟨hx, hb, hml, hown, hts, hr, hlk, hfr, hlo⟩ := E
  obtain ⟨hP, hD, hS, hl, hlok, hsok⟩ := S
  unfold en_chk at hc
  simp only [Bool.and_eq_true, decide_eq_true_eq] at hc
  unfold en_st at h
  dsimp only at h
  obtain ⟨hd, hlen⟩ := hc
  have hlen := Nat.eq_of_beq_eq_true hlen
  subst hlen
  split at h
  · rename_i v u r
    cases h
    refine lv_ishr hx hb hd ?_
    have K1 := K H locs lsA ⟨hP, hD, hS, hl, hlok, List.forall_mem_cons.mpr ⟨trivial, fun w hw => hsok w (List.mem_cons_of_mem _ (List.mem_cons_of_mem _ hw))⟩⟩
    simp only [List.map_cons, en_rv, en_ishr, nu_bv] at K1
    exact K1
  · cases h
theorem en_snd_land (E : en_E z p s m args meth c R) (hK : va_K D classes (en_tys cA) s) {pc len a b j : Nat} {x : Int} {ls : en_l} {st : List en_v} {σ : en_m}  (hc : en_chk z (pc, .land, len, a, b, j, x) = true) (S : en_S ad cA D A H0 (en_mL z) lsA ls st H locs σ) {y : en_x} (h : en_st (pc, .land, len, a, b, j, x) ls st σ = some y) (K : ∀ (H1 : Heap) (locs1 : List Loc) (lsA1 : Array Slot), en_S ad cA D A H0 (en_mL z) lsA1 y.2.1 y.2.2.1 H1 locs1 y.2.2.2 → W p l e R s m args below meth c H1 locs1 0 0 Q (F0 m y.1 lsA1 (y.2.2.1.map (en_rv ad)))) : W p l e R s m args below meth c H locs 0 0 Q (F0 m pc lsA (st.map (en_rv ad))) := by
  obtain ⟨hx, hb, hml, hown, hts, hr, hlk, hfr, hlo⟩ := E
  obtain ⟨hP, hD, hS, hl, hlok, hsok⟩ := S
  unfold en_chk at hc
  simp only [Bool.and_eq_true, decide_eq_true_eq] at hc
  unfold en_st at h
  dsimp only at h
  obtain ⟨hd, hlen⟩ := hc
  have hlen := Nat.eq_of_beq_eq_true hlen
  subst hlen
  split at h
  · rename_i v u r
    cases h
    refine lv_land hx hb hd ?_
    have K1 := K H locs lsA ⟨hP, hD, hS, hl, hlok, List.forall_mem_cons.mpr ⟨trivial, fun w hw => hsok w (List.mem_cons_of_mem _ (List.mem_cons_of_mem _ hw))⟩⟩
    simp only [List.map_cons, en_rv, en_land, nu_bvl] at K1
    exact K1
  · cases h
theorem en_snd_lor (E : en_E z p s m args meth c R) (hK : va_K D classes (en_tys cA) s) {pc len a b j : Nat} {x : Int} {ls : en_l} {st : List en_v} {σ : en_m}  (hc : en_chk z (pc, .lor, len, a, b, j, x) = true) (S : en_S ad cA D A H0 (en_mL z) lsA ls st H locs σ) {y : en_x} (h : en_st (pc, .lor, len, a, b, j, x) ls st σ = some y) (K : ∀ (H1 : Heap) (locs1 : List Loc) (lsA1 : Array Slot), en_S ad cA D A H0 (en_mL z) lsA1 y.2.1 y.2.2.1 H1 locs1 y.2.2.2 → W p l e R s m args below meth c H1 locs1 0 0 Q (F0 m y.1 lsA1 (y.2.2.1.map (en_rv ad)))) : W p l e R s m args below meth c H locs 0 0 Q (F0 m pc lsA (st.map (en_rv ad))) := by
  obtain ⟨hx, hb, hml, hown, hts, hr, hlk, hfr, hlo⟩ := E
  obtain ⟨hP, hD, hS, hl, hlok, hsok⟩ := S
  unfold en_chk at hc
  simp only [Bool.and_eq_true, decide_eq_true_eq] at hc
  unfold en_st at h
  dsimp only at h
  obtain ⟨hd, hlen⟩ := hc
  have hlen := Nat.eq_of_beq_eq_true hlen
  subst hlen
  split at h
  · rename_i v u r
    cases h
    refine lv_lor hx hb hd ?_
    have K1 := K H locs lsA ⟨hP, hD, hS, hl, hlok, List.forall_mem_cons.mpr ⟨trivial, fun w hw => hsok w (List.mem_cons_of_mem _ (List.mem_cons_of_mem _ hw))⟩⟩
    simp only [List.map_cons, en_rv, en_lor, nu_bvl] at K1
    exact K1
  · cases h
theorem en_snd_lshl (E : en_E z p s m args meth c R) (hK : va_K D classes (en_tys cA) s) {pc len a b j : Nat} {x : Int} {ls : en_l} {st : List en_v} {σ : en_m}  (hc : en_chk z (pc, .lshl, len, a, b, j, x) = true) (S : en_S ad cA D A H0 (en_mL z) lsA ls st H locs σ) {y : en_x} (h : en_st (pc, .lshl, len, a, b, j, x) ls st σ = some y) (K : ∀ (H1 : Heap) (locs1 : List Loc) (lsA1 : Array Slot), en_S ad cA D A H0 (en_mL z) lsA1 y.2.1 y.2.2.1 H1 locs1 y.2.2.2 → W p l e R s m args below meth c H1 locs1 0 0 Q (F0 m y.1 lsA1 (y.2.2.1.map (en_rv ad)))) : W p l e R s m args below meth c H locs 0 0 Q (F0 m pc lsA (st.map (en_rv ad))) := by
  obtain ⟨hx, hb, hml, hown, hts, hr, hlk, hfr, hlo⟩ := E
  obtain ⟨hP, hD, hS, hl, hlok, hsok⟩ := S
  unfold en_chk at hc
  simp only [Bool.and_eq_true, decide_eq_true_eq] at hc
  unfold en_st at h
  dsimp only at h
  obtain ⟨hd, hlen⟩ := hc
  have hlen := Nat.eq_of_beq_eq_true hlen
  subst hlen
  split at h
  · rename_i v u r
    cases h
    refine lv_lshl hx hb hd rfl ?_
    have K1 := K H locs lsA ⟨hP, hD, hS, hl, hlok, List.forall_mem_cons.mpr ⟨trivial, fun w hw => hsok w (List.mem_cons_of_mem _ (List.mem_cons_of_mem _ hw))⟩⟩
    simp only [List.map_cons, en_rv, en_lshl, nu_bvl] at K1
    exact K1
  · cases h
theorem en_snd_lshr (E : en_E z p s m args meth c R) (hK : va_K D classes (en_tys cA) s) {pc len a b j : Nat} {x : Int} {ls : en_l} {st : List en_v} {σ : en_m}  (hc : en_chk z (pc, .lshr, len, a, b, j, x) = true) (S : en_S ad cA D A H0 (en_mL z) lsA ls st H locs σ) {y : en_x} (h : en_st (pc, .lshr, len, a, b, j, x) ls st σ = some y) (K : ∀ (H1 : Heap) (locs1 : List Loc) (lsA1 : Array Slot), en_S ad cA D A H0 (en_mL z) lsA1 y.2.1 y.2.2.1 H1 locs1 y.2.2.2 → W p l e R s m args below meth c H1 locs1 0 0 Q (F0 m y.1 lsA1 (y.2.2.1.map (en_rv ad)))) : W p l e R s m args below meth c H locs 0 0 Q (F0 m pc lsA (st.map (en_rv ad))) := by
  obtain ⟨hx, hb, hml, hown, hts, hr, hlk, hfr, hlo⟩ := E
  obtain ⟨hP, hD, hS, hl, hlok, hsok⟩ := S
  unfold en_chk at hc
  simp only [Bool.and_eq_true, decide_eq_true_eq] at hc
  unfold en_st at h
  dsimp only at h
  obtain ⟨hd, hlen⟩ := hc
  have hlen := Nat.eq_of_beq_eq_true hlen
  subst hlen
  split at h
  · rename_i v u r
    cases h
    refine lv_lshr hx hb hd rfl ?_
    have K1 := K H locs lsA ⟨hP, hD, hS, hl, hlok, List.forall_mem_cons.mpr ⟨trivial, fun w hw => hsok w (List.mem_cons_of_mem _ (List.mem_cons_of_mem _ hw))⟩⟩
    simp only [List.map_cons, en_rv, en_lshr, nu_bvl] at K1
    exact K1
  · cases h
theorem en_snd_i2l (E : en_E z p s m args meth c R) (hK : va_K D classes (en_tys cA) s) {pc len a b j : Nat} {x : Int} {ls : en_l} {st : List en_v} {σ : en_m}  (hc : en_chk z (pc, .i2l, len, a, b, j, x) = true) (S : en_S ad cA D A H0 (en_mL z) lsA ls st H locs σ) {y : en_x} (h : en_st (pc, .i2l, len, a, b, j, x) ls st σ = some y) (K : ∀ (H1 : Heap) (locs1 : List Loc) (lsA1 : Array Slot), en_S ad cA D A H0 (en_mL z) lsA1 y.2.1 y.2.2.1 H1 locs1 y.2.2.2 → W p l e R s m args below meth c H1 locs1 0 0 Q (F0 m y.1 lsA1 (y.2.2.1.map (en_rv ad)))) : W p l e R s m args below meth c H locs 0 0 Q (F0 m pc lsA (st.map (en_rv ad))) := by
  obtain ⟨hx, hb, hml, hown, hts, hr, hlk, hfr, hlo⟩ := E
  obtain ⟨hP, hD, hS, hl, hlok, hsok⟩ := S
  unfold en_chk at hc
  simp only [Bool.and_eq_true, decide_eq_true_eq] at hc
  unfold en_st at h
  dsimp only at h
  obtain ⟨hd, hlen⟩ := hc
  have hlen := Nat.eq_of_beq_eq_true hlen
  subst hlen
  split at h
  · rename_i u r
    cases h
    refine lv_i2l hx hb hd (nu_i2l u) ?_
    exact K H locs lsA ⟨hP, hD, hS, hl, hlok, List.forall_mem_cons.mpr ⟨trivial, fun w hw => hsok w (List.mem_cons_of_mem _ hw)⟩⟩
  · cases h
theorem en_snd_l2i (E : en_E z p s m args meth c R) (hK : va_K D classes (en_tys cA) s) {pc len a b j : Nat} {x : Int} {ls : en_l} {st : List en_v} {σ : en_m}  (hc : en_chk z (pc, .l2i, len, a, b, j, x) = true) (S : en_S ad cA D A H0 (en_mL z) lsA ls st H locs σ) {y : en_x} (h : en_st (pc, .l2i, len, a, b, j, x) ls st σ = some y) (K : ∀ (H1 : Heap) (locs1 : List Loc) (lsA1 : Array Slot), en_S ad cA D A H0 (en_mL z) lsA1 y.2.1 y.2.2.1 H1 locs1 y.2.2.2 → W p l e R s m args below meth c H1 locs1 0 0 Q (F0 m y.1 lsA1 (y.2.2.1.map (en_rv ad)))) : W p l e R s m args below meth c H locs 0 0 Q (F0 m pc lsA (st.map (en_rv ad))) := by
  obtain ⟨hx, hb, hml, hown, hts, hr, hlk, hfr, hlo⟩ := E
  obtain ⟨hP, hD, hS, hl, hlok, hsok⟩ := S
  unfold en_chk at hc
  simp only [Bool.and_eq_true, decide_eq_true_eq] at hc
  unfold en_st at h
  dsimp only at h
  obtain ⟨hd, hlen⟩ := hc
  have hlen := Nat.eq_of_beq_eq_true hlen
  subst hlen
  split at h
  · rename_i u r
    cases h
    refine lv_l2i hx hb hd (nu_l2i u) ?_
    exact K H locs lsA ⟨hP, hD, hS, hl, hlok, List.forall_mem_cons.mpr ⟨trivial, fun w hw => hsok w (List.mem_cons_of_mem _ hw)⟩⟩
  · cases h
theorem en_snd_i2b (E : en_E z p s m args meth c R) (hK : va_K D classes (en_tys cA) s) {pc len a b j : Nat} {x : Int} {ls : en_l} {st : List en_v} {σ : en_m}  (hc : en_chk z (pc, .i2b, len, a, b, j, x) = true) (S : en_S ad cA D A H0 (en_mL z) lsA ls st H locs σ) {y : en_x} (h : en_st (pc, .i2b, len, a, b, j, x) ls st σ = some y) (K : ∀ (H1 : Heap) (locs1 : List Loc) (lsA1 : Array Slot), en_S ad cA D A H0 (en_mL z) lsA1 y.2.1 y.2.2.1 H1 locs1 y.2.2.2 → W p l e R s m args below meth c H1 locs1 0 0 Q (F0 m y.1 lsA1 (y.2.2.1.map (en_rv ad)))) : W p l e R s m args below meth c H locs 0 0 Q (F0 m pc lsA (st.map (en_rv ad))) := by
  obtain ⟨hx, hb, hml, hown, hts, hr, hlk, hfr, hlo⟩ := E
  obtain ⟨hP, hD, hS, hl, hlok, hsok⟩ := S
  unfold en_chk at hc
  simp only [Bool.and_eq_true, decide_eq_true_eq] at hc
  unfold en_st at h
  dsimp only at h
  obtain ⟨hd, hlen⟩ := hc
  have hlen := Nat.eq_of_beq_eq_true hlen
  subst hlen
  split at h
  · rename_i u r
    cases h
    refine lv_i2b hx hb hd (nu_i2b u) ?_
    exact K H locs lsA ⟨hP, hD, hS, hl, hlok, List.forall_mem_cons.mpr ⟨trivial, fun w hw => hsok w (List.mem_cons_of_mem _ hw)⟩⟩
  · cases h
theorem en_snd_lcmp (E : en_E z p s m args meth c R) (hK : va_K D classes (en_tys cA) s) {pc len a b j : Nat} {x : Int} {ls : en_l} {st : List en_v} {σ : en_m}  (hc : en_chk z (pc, .lcmp, len, a, b, j, x) = true) (S : en_S ad cA D A H0 (en_mL z) lsA ls st H locs σ) {y : en_x} (h : en_st (pc, .lcmp, len, a, b, j, x) ls st σ = some y) (K : ∀ (H1 : Heap) (locs1 : List Loc) (lsA1 : Array Slot), en_S ad cA D A H0 (en_mL z) lsA1 y.2.1 y.2.2.1 H1 locs1 y.2.2.2 → W p l e R s m args below meth c H1 locs1 0 0 Q (F0 m y.1 lsA1 (y.2.2.1.map (en_rv ad)))) : W p l e R s m args below meth c H locs 0 0 Q (F0 m pc lsA (st.map (en_rv ad))) := by
  obtain ⟨hx, hb, hml, hown, hts, hr, hlk, hfr, hlo⟩ := E
  obtain ⟨hP, hD, hS, hl, hlok, hsok⟩ := S
  unfold en_chk at hc
  simp only [Bool.and_eq_true, decide_eq_true_eq] at hc
  unfold en_st at h
  dsimp only at h
  obtain ⟨hd, hlen⟩ := hc
  have hlen := Nat.eq_of_beq_eq_true hlen
  subst hlen
  split at h
  · rename_i v u r
    cases h
    refine W.lcmp hx hb hd ?_
    rw [nu_cmp]
    exact K H locs lsA ⟨hP, hD, hS, hl, hlok, List.forall_mem_cons.mpr ⟨trivial, fun w hw => hsok w (List.mem_cons_of_mem _ (List.mem_cons_of_mem _ hw))⟩⟩
  · cases h
theorem en_snd_dup (E : en_E z p s m args meth c R) (hK : va_K D classes (en_tys cA) s) {pc len a b j : Nat} {x : Int} {ls : en_l} {st : List en_v} {σ : en_m}  (hc : en_chk z (pc, .dup, len, a, b, j, x) = true) (S : en_S ad cA D A H0 (en_mL z) lsA ls st H locs σ) {y : en_x} (h : en_st (pc, .dup, len, a, b, j, x) ls st σ = some y) (K : ∀ (H1 : Heap) (locs1 : List Loc) (lsA1 : Array Slot), en_S ad cA D A H0 (en_mL z) lsA1 y.2.1 y.2.2.1 H1 locs1 y.2.2.2 → W p l e R s m args below meth c H1 locs1 0 0 Q (F0 m y.1 lsA1 (y.2.2.1.map (en_rv ad)))) : W p l e R s m args below meth c H locs 0 0 Q (F0 m pc lsA (st.map (en_rv ad))) := by
  obtain ⟨hx, hb, hml, hown, hts, hr, hlk, hfr, hlo⟩ := E
  obtain ⟨hP, hD, hS, hl, hlok, hsok⟩ := S
  unfold en_chk at hc
  simp only [Bool.and_eq_true, decide_eq_true_eq] at hc
  unfold en_st at h
  dsimp only at h
  obtain ⟨hd, hlen⟩ := hc
  have hlen := Nat.eq_of_beq_eq_true hlen
  subst hlen
  split at h
  · rename_i u r
    cases h
    refine lv_dup hx hb hd rfl ?_
    exact K H locs lsA ⟨hP, hD, hS, hl, hlok, List.forall_mem_cons.mpr ⟨trivial, hsok⟩⟩
  · rename_i u r
    cases h
    refine lv_dup hx hb hd rfl ?_
    exact K H locs lsA ⟨hP, hD, hS, hl, hlok, List.forall_mem_cons.mpr ⟨hsok _ List.mem_cons_self, hsok⟩⟩
  · cases h
theorem en_snd_dup2 (E : en_E z p s m args meth c R) (hK : va_K D classes (en_tys cA) s) {pc len a b j : Nat} {x : Int} {ls : en_l} {st : List en_v} {σ : en_m}  (hc : en_chk z (pc, .dup2, len, a, b, j, x) = true) (S : en_S ad cA D A H0 (en_mL z) lsA ls st H locs σ) {y : en_x} (h : en_st (pc, .dup2, len, a, b, j, x) ls st σ = some y) (K : ∀ (H1 : Heap) (locs1 : List Loc) (lsA1 : Array Slot), en_S ad cA D A H0 (en_mL z) lsA1 y.2.1 y.2.2.1 H1 locs1 y.2.2.2 → W p l e R s m args below meth c H1 locs1 0 0 Q (F0 m y.1 lsA1 (y.2.2.1.map (en_rv ad)))) : W p l e R s m args below meth c H locs 0 0 Q (F0 m pc lsA (st.map (en_rv ad))) := by
  obtain ⟨hx, hb, hml, hown, hts, hr, hlk, hfr, hlo⟩ := E
  obtain ⟨hP, hD, hS, hl, hlok, hsok⟩ := S
  unfold en_chk at hc
  simp only [Bool.and_eq_true, decide_eq_true_eq] at hc
  unfold en_st at h
  dsimp only at h
  obtain ⟨hd, hlen⟩ := hc
  have hlen := Nat.eq_of_beq_eq_true hlen
  subst hlen
  split at h
  · rename_i v u r
    cases h
    refine lv_dup2_11 hx hb hd rfl rfl ?_
    exact K H locs lsA ⟨hP, hD, hS, hl, hlok, List.forall_mem_cons.mpr ⟨trivial, List.forall_mem_cons.mpr ⟨hsok _ (List.mem_cons_of_mem _ List.mem_cons_self), hsok⟩⟩⟩
  · cases h
theorem en_snd_pop (E : en_E z p s m args meth c R) (hK : va_K D classes (en_tys cA) s) {pc len a b j : Nat} {x : Int} {ls : en_l} {st : List en_v} {σ : en_m}  (hc : en_chk z (pc, .pop, len, a, b, j, x) = true) (S : en_S ad cA D A H0 (en_mL z) lsA ls st H locs σ) {y : en_x} (h : en_st (pc, .pop, len, a, b, j, x) ls st σ = some y) (K : ∀ (H1 : Heap) (locs1 : List Loc) (lsA1 : Array Slot), en_S ad cA D A H0 (en_mL z) lsA1 y.2.1 y.2.2.1 H1 locs1 y.2.2.2 → W p l e R s m args below meth c H1 locs1 0 0 Q (F0 m y.1 lsA1 (y.2.2.1.map (en_rv ad)))) : W p l e R s m args below meth c H locs 0 0 Q (F0 m pc lsA (st.map (en_rv ad))) := by
  obtain ⟨hx, hb, hml, hown, hts, hr, hlk, hfr, hlo⟩ := E
  obtain ⟨hP, hD, hS, hl, hlok, hsok⟩ := S
  unfold en_chk at hc
  simp only [Bool.and_eq_true, decide_eq_true_eq] at hc
  unfold en_st at h
  dsimp only at h
  obtain ⟨hd, hlen⟩ := hc
  have hlen := Nat.eq_of_beq_eq_true hlen
  subst hlen
  split at h
  · rename_i u r
    cases h
    refine lv_pop hx hb hd rfl ?_
    exact K H locs lsA ⟨hP, hD, hS, hl, hlok, fun w hw => hsok w (List.mem_cons_of_mem _ hw)⟩
  · rename_i u r
    cases h
    refine lv_pop hx hb hd rfl ?_
    exact K H locs lsA ⟨hP, hD, hS, hl, hlok, fun w hw => hsok w (List.mem_cons_of_mem _ hw)⟩
  · cases h
theorem en_snd_goto (E : en_E z p s m args meth c R) (hK : va_K D classes (en_tys cA) s) {pc len a b j : Nat} {x : Int} {ls : en_l} {st : List en_v} {σ : en_m} {kk : Int} (hc : en_chk z (pc, .goto kk, len, a, b, j, x) = true) (S : en_S ad cA D A H0 (en_mL z) lsA ls st H locs σ) {y : en_x} (h : en_st (pc, .goto kk, len, a, b, j, x) ls st σ = some y) (K : ∀ (H1 : Heap) (locs1 : List Loc) (lsA1 : Array Slot), en_S ad cA D A H0 (en_mL z) lsA1 y.2.1 y.2.2.1 H1 locs1 y.2.2.2 → W p l e R s m args below meth c H1 locs1 0 0 Q (F0 m y.1 lsA1 (y.2.2.1.map (en_rv ad)))) : W p l e R s m args below meth c H locs 0 0 Q (F0 m pc lsA (st.map (en_rv ad))) := by
  obtain ⟨hx, hb, hml, hown, hts, hr, hlk, hfr, hlo⟩ := E
  obtain ⟨hP, hD, hS, hl, hlok, hsok⟩ := S
  unfold en_chk at hc
  simp only [Bool.and_eq_true, decide_eq_true_eq] at hc
  unfold en_st at h
  dsimp only at h
  obtain ⟨hd, hlen, ht⟩ := hc
  have hlen := Nat.eq_of_beq_eq_true hlen
  subst hlen
  cases h
  refine lv_goto hx hb hd ht ?_
  exact K H locs lsA ⟨hP, hD, hS, hl, hlok, hsok⟩
theorem en_snd_iinc (E : en_E z p s m args meth c R) (hK : va_K D classes (en_tys cA) s) {pc len a b j : Nat} {x : Int} {ls : en_l} {st : List en_v} {σ : en_m} {kk : Nat} {cc : Int} (hc : en_chk z (pc, .iinc kk cc, len, a, b, j, x) = true) (S : en_S ad cA D A H0 (en_mL z) lsA ls st H locs σ) {y : en_x} (h : en_st (pc, .iinc kk cc, len, a, b, j, x) ls st σ = some y) (K : ∀ (H1 : Heap) (locs1 : List Loc) (lsA1 : Array Slot), en_S ad cA D A H0 (en_mL z) lsA1 y.2.1 y.2.2.1 H1 locs1 y.2.2.2 → W p l e R s m args below meth c H1 locs1 0 0 Q (F0 m y.1 lsA1 (y.2.2.1.map (en_rv ad)))) : W p l e R s m args below meth c H locs 0 0 Q (F0 m pc lsA (st.map (en_rv ad))) := by
  obtain ⟨hx, hb, hml, hown, hts, hr, hlk, hfr, hlo⟩ := E
  obtain ⟨hP, hD, hS, hl, hlok, hsok⟩ := S
  unfold en_chk at hc
  simp only [Bool.and_eq_true, decide_eq_true_eq] at hc
  unfold en_st at h
  dsimp only at h
  obtain ⟨hd, hlen, hn⟩ := hc
  have hlen := Nat.eq_of_beq_eq_true hlen
  have hn := Nat.le_of_ble_eq_true hn
  subst hlen
  split at h
  · rename_i v hg
    cases h
    have hm := en_ll_of (ad := ad) (i0 := 0) hg
    rw [Nat.zero_add] at hm
    obtain ⟨k0, hk0⟩ := List.getElem?_of_mem hm
    refine lv_iinc (v := Int32.ofInt (v + cc)) hx hb hd (en_lh_has hl) (k := k0) hk0 (nu_add v cc) hn rfl (fun ls' hl' => ?_)
    exact K H locs ls' ⟨hP, hD, hS, en_lh_s1 (v := .inl (v + cc)) hl', en_lok_s1 hlok trivial, hsok⟩
  · cases h
theorem en_snd_if_icmp (E : en_E z p s m args meth c R) (hK : va_K D classes (en_tys cA) s) {pc len a b j : Nat} {x : Int} {ls : en_l} {st : List en_v} {σ : en_m} {cd : Jvm.ClassFile.Cond} {off : Int} (hc : en_chk z (pc, .if_icmp cd off, len, a, b, j, x) = true) (S : en_S ad cA D A H0 (en_mL z) lsA ls st H locs σ) {y : en_x} (h : en_st (pc, .if_icmp cd off, len, a, b, j, x) ls st σ = some y) (K : ∀ (H1 : Heap) (locs1 : List Loc) (lsA1 : Array Slot), en_S ad cA D A H0 (en_mL z) lsA1 y.2.1 y.2.2.1 H1 locs1 y.2.2.2 → W p l e R s m args below meth c H1 locs1 0 0 Q (F0 m y.1 lsA1 (y.2.2.1.map (en_rv ad)))) : W p l e R s m args below meth c H locs 0 0 Q (F0 m pc lsA (st.map (en_rv ad))) := by
  obtain ⟨hx, hb, hml, hown, hts, hr, hlk, hfr, hlo⟩ := E
  obtain ⟨hP, hD, hS, hl, hlok, hsok⟩ := S
  unfold en_chk at hc
  simp only [Bool.and_eq_true, decide_eq_true_eq] at hc
  unfold en_st at h
  dsimp only at h
  obtain ⟨hd, hlen, ht⟩ := hc
  have hlen := Nat.eq_of_beq_eq_true hlen
  subst hlen
  split at h
  · rename_i v u r
    cases h
    have hso : ∀ w ∈ r, en_ok w := fun w hw => hsok w (List.mem_cons_of_mem _ (List.mem_cons_of_mem _ hw))
    have G : ∀ bb : Bool, (bif bb then a else pc + 3) = (bif bb then a else pc + 3) := fun _ => rfl
    cases cd
    · refine lv_icmp_eq hx hb hd ht (fun hcd => ?_) (fun hcd => ?_)
      all_goals
        simp only [nu_eq, ge_iff_le, gt_iff_lt, ne_eq] at hcd
        refine (?_ : W p l e R s m args below meth c H locs 0 0 Q (F0 m _ lsA (r.map (en_rv ad))))
        have K1 := K H locs lsA ⟨hP, hD, hS, hl, hlok, hso⟩
        have hz : en_cmp .eq (w32 u) (w32 v) = _ := rfl
        simp only [en_cmp] at K1
      · rw [show (decide (w32 u = w32 v)) = true by simp <;> omega] at K1
        exact K1
      · rw [show (decide (w32 u = w32 v)) = false by simp <;> omega] at K1
        exact K1
    · refine lv_icmp_ne hx hb hd ht (fun hcd => ?_) (fun hcd => ?_)
      all_goals
        simp only [nu_eq, ge_iff_le, gt_iff_lt, ne_eq] at hcd
        refine (?_ : W p l e R s m args below meth c H locs 0 0 Q (F0 m _ lsA (r.map (en_rv ad))))
        have K1 := K H locs lsA ⟨hP, hD, hS, hl, hlok, hso⟩
        have hz : en_cmp .ne (w32 u) (w32 v) = _ := rfl
        simp only [en_cmp] at K1
      · rw [show (!decide (w32 u = w32 v)) = true by simp <;> omega] at K1
        exact K1
      · rw [show (!decide (w32 u = w32 v)) = false by simp <;> omega] at K1
        exact K1
    · refine lv_icmp_lt hx hb hd ht (fun hcd => ?_) (fun hcd => ?_)
      all_goals
        simp only [nu_lt, ge_iff_le, gt_iff_lt, ne_eq] at hcd
        refine (?_ : W p l e R s m args below meth c H locs 0 0 Q (F0 m _ lsA (r.map (en_rv ad))))
        have K1 := K H locs lsA ⟨hP, hD, hS, hl, hlok, hso⟩
        have hz : en_cmp .lt (w32 u) (w32 v) = _ := rfl
        simp only [en_cmp] at K1
      · rw [show (decide (w32 u < w32 v)) = true by simp <;> omega] at K1
        exact K1
      · rw [show (decide (w32 u < w32 v)) = false by simp <;> omega] at K1
        exact K1
    · refine lv_icmp_ge hx hb hd ht (fun hcd => ?_) (fun hcd => ?_)
      all_goals
        simp only [nu_le, ge_iff_le, gt_iff_lt, ne_eq] at hcd
        refine (?_ : W p l e R s m args below meth c H locs 0 0 Q (F0 m _ lsA (r.map (en_rv ad))))
        have K1 := K H locs lsA ⟨hP, hD, hS, hl, hlok, hso⟩
        have hz : en_cmp .ge (w32 u) (w32 v) = _ := rfl
        simp only [en_cmp] at K1
      · rw [show (!decide (w32 u < w32 v)) = true by simp <;> omega] at K1
        exact K1
      · rw [show (!decide (w32 u < w32 v)) = false by simp <;> omega] at K1
        exact K1
    · refine lv_icmp_gt hx hb hd ht (fun hcd => ?_) (fun hcd => ?_)
      all_goals
        simp only [nu_lt, ge_iff_le, gt_iff_lt, ne_eq] at hcd
        refine (?_ : W p l e R s m args below meth c H locs 0 0 Q (F0 m _ lsA (r.map (en_rv ad))))
        have K1 := K H locs lsA ⟨hP, hD, hS, hl, hlok, hso⟩
        have hz : en_cmp .gt (w32 u) (w32 v) = _ := rfl
        simp only [en_cmp] at K1
      · rw [show (decide (w32 v < w32 u)) = true by simp <;> omega] at K1
        exact K1
      · rw [show (decide (w32 v < w32 u)) = false by simp <;> omega] at K1
        exact K1
    · refine lv_icmp_le hx hb hd ht (fun hcd => ?_) (fun hcd => ?_)
      all_goals
        simp only [nu_le, ge_iff_le, gt_iff_lt, ne_eq] at hcd
        refine (?_ : W p l e R s m args below meth c H locs 0 0 Q (F0 m _ lsA (r.map (en_rv ad))))
        have K1 := K H locs lsA ⟨hP, hD, hS, hl, hlok, hso⟩
        have hz : en_cmp .le (w32 u) (w32 v) = _ := rfl
        simp only [en_cmp] at K1
      · rw [show (!decide (w32 v < w32 u)) = true by simp <;> omega] at K1
        exact K1
      · rw [show (!decide (w32 v < w32 u)) = false by simp <;> omega] at K1
        exact K1
  · cases h
theorem en_snd_ifCond (E : en_E z p s m args meth c R) (hK : va_K D classes (en_tys cA) s) {pc len a b j : Nat} {x : Int} {ls : en_l} {st : List en_v} {σ : en_m} {cd : Jvm.ClassFile.Cond} {off : Int} (hc : en_chk z (pc, .ifCond cd off, len, a, b, j, x) = true) (S : en_S ad cA D A H0 (en_mL z) lsA ls st H locs σ) {y : en_x} (h : en_st (pc, .ifCond cd off, len, a, b, j, x) ls st σ = some y) (K : ∀ (H1 : Heap) (locs1 : List Loc) (lsA1 : Array Slot), en_S ad cA D A H0 (en_mL z) lsA1 y.2.1 y.2.2.1 H1 locs1 y.2.2.2 → W p l e R s m args below meth c H1 locs1 0 0 Q (F0 m y.1 lsA1 (y.2.2.1.map (en_rv ad)))) : W p l e R s m args below meth c H locs 0 0 Q (F0 m pc lsA (st.map (en_rv ad))) := by
  obtain ⟨hx, hb, hml, hown, hts, hr, hlk, hfr, hlo⟩ := E
  obtain ⟨hP, hD, hS, hl, hlok, hsok⟩ := S
  unfold en_chk at hc
  simp only [Bool.and_eq_true, decide_eq_true_eq] at hc
  unfold en_st at h
  dsimp only at h
  obtain ⟨hd, hlen, ht⟩ := hc
  have hlen := Nat.eq_of_beq_eq_true hlen
  subst hlen
  split at h
  · rename_i v r
    cases h
    have hso : ∀ w ∈ r, en_ok w := fun w hw => hsok w (List.mem_cons_of_mem _ hw)
    have G : ∀ bb : Bool, (bif bb then a else pc + 3) = (bif bb then a else pc + 3) := fun _ => rfl
    cases cd
    · refine lv_if_eq hx hb hd ht (fun hcd => ?_) (fun hcd => ?_)
      all_goals
        simp only [nu_eq, nu_0, nu_w0, ge_iff_le, gt_iff_lt, ne_eq] at hcd
        refine (?_ : W p l e R s m args below meth c H locs 0 0 Q (F0 m _ lsA (r.map (en_rv ad))))
        have K1 := K H locs lsA ⟨hP, hD, hS, hl, hlok, hso⟩
        have hz : en_cmp .eq (w32 v) (0) = _ := rfl
        simp only [en_cmp] at K1
      · rw [show (decide (w32 v = 0)) = true by simp <;> omega] at K1
        exact K1
      · rw [show (decide (w32 v = 0)) = false by simp <;> omega] at K1
        exact K1
    · refine lv_if_ne hx hb hd ht (fun hcd => ?_) (fun hcd => ?_)
      all_goals
        simp only [nu_eq, nu_0, nu_w0, ge_iff_le, gt_iff_lt, ne_eq] at hcd
        refine (?_ : W p l e R s m args below meth c H locs 0 0 Q (F0 m _ lsA (r.map (en_rv ad))))
        have K1 := K H locs lsA ⟨hP, hD, hS, hl, hlok, hso⟩
        have hz : en_cmp .ne (w32 v) (0) = _ := rfl
        simp only [en_cmp] at K1
      · rw [show (!decide (w32 v = 0)) = true by simp <;> omega] at K1
        exact K1
      · rw [show (!decide (w32 v = 0)) = false by simp <;> omega] at K1
        exact K1
    · refine lv_if_lt hx hb hd ht (fun hcd => ?_) (fun hcd => ?_)
      all_goals
        simp only [nu_lt, nu_0, nu_w0, ge_iff_le, gt_iff_lt, ne_eq] at hcd
        refine (?_ : W p l e R s m args below meth c H locs 0 0 Q (F0 m _ lsA (r.map (en_rv ad))))
        have K1 := K H locs lsA ⟨hP, hD, hS, hl, hlok, hso⟩
        have hz : en_cmp .lt (w32 v) (0) = _ := rfl
        simp only [en_cmp] at K1
      · rw [show (decide (w32 v < 0)) = true by simp <;> omega] at K1
        exact K1
      · rw [show (decide (w32 v < 0)) = false by simp <;> omega] at K1
        exact K1
    · refine lv_if_ge hx hb hd ht (fun hcd => ?_) (fun hcd => ?_)
      all_goals
        simp only [nu_le, nu_0, nu_w0, ge_iff_le, gt_iff_lt, ne_eq] at hcd
        refine (?_ : W p l e R s m args below meth c H locs 0 0 Q (F0 m _ lsA (r.map (en_rv ad))))
        have K1 := K H locs lsA ⟨hP, hD, hS, hl, hlok, hso⟩
        have hz : en_cmp .ge (w32 v) (0) = _ := rfl
        simp only [en_cmp] at K1
      · rw [show (!decide (w32 v < 0)) = true by simp <;> omega] at K1
        exact K1
      · rw [show (!decide (w32 v < 0)) = false by simp <;> omega] at K1
        exact K1
    · refine lv_if_gt hx hb hd ht (fun hcd => ?_) (fun hcd => ?_)
      all_goals
        simp only [nu_lt, nu_0, nu_w0, ge_iff_le, gt_iff_lt, ne_eq] at hcd
        refine (?_ : W p l e R s m args below meth c H locs 0 0 Q (F0 m _ lsA (r.map (en_rv ad))))
        have K1 := K H locs lsA ⟨hP, hD, hS, hl, hlok, hso⟩
        have hz : en_cmp .gt (w32 v) (0) = _ := rfl
        simp only [en_cmp] at K1
      · rw [show (decide (0 < w32 v)) = true by simp <;> omega] at K1
        exact K1
      · rw [show (decide (0 < w32 v)) = false by simp <;> omega] at K1
        exact K1
    · refine lv_if_le hx hb hd ht (fun hcd => ?_) (fun hcd => ?_)
      all_goals
        simp only [nu_le, nu_0, nu_w0, ge_iff_le, gt_iff_lt, ne_eq] at hcd
        refine (?_ : W p l e R s m args below meth c H locs 0 0 Q (F0 m _ lsA (r.map (en_rv ad))))
        have K1 := K H locs lsA ⟨hP, hD, hS, hl, hlok, hso⟩
        have hz : en_cmp .le (w32 v) (0) = _ := rfl
        simp only [en_cmp] at K1
      · rw [show (!decide (0 < w32 v)) = true by simp <;> omega] at K1
        exact K1
      · rw [show (!decide (0 < w32 v)) = false by simp <;> omega] at K1
        exact K1
  · cases h
end SN1
