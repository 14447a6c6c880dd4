/-! one instruction of the engine is one of the machine: cells -/
def la_fty (tag : Nat) (o : Option FieldType) : Bool := match tag, o with
  | 0, some .int => true
  | 1, some .boolean => true
  | 2, some .long => true
  | 3, _ => true
  | 4, some (.array _) => true
  | 5, some (.object _) => true
  | _, _ => false
def la_tds (c : Nat) : Nat → List (Nat × Nat × Nat) → Bool
  | _, [] => true
  | i, f :: r => la_fty f.1 (parseFieldDescriptor (en_fld c i).2.2.1) && (bif Nat.beq f.1 5 then la_obj f.2.2 && la_obj (f.2.2 + 1) && la_obj (f.2.2 + 2) else true) && la_tds c (i + 1) r
def la_tdq (q : Nat × Int) : Bool := match en_K q.1 with
  | .inl (c, fs) => la_tds c 0 fs
  | _ => true
set_option maxRecDepth 100000 in
theorem la_tdok : en_C.all la_tdq = true := by decide +kernel
theorem la_tds_at {c : Nat} : ∀ {fs : List (Nat × Nat × Nat)} {i0 i : Nat} {f : Nat × Nat × Nat}, la_tds c i0 fs = true → fs[i]? = some f → la_fty f.1 (parseFieldDescriptor (en_fld c (i0 + i)).2.2.1) = true ∧ (f.1 = 5 → la_obj f.2.2 = true ∧ la_obj (f.2.2 + 1) = true ∧ la_obj (f.2.2 + 2) = true)
  | [], _, _, _, _, h => by cases h
  | g :: r, i0, i, f, h, hf => by
    have hh : (la_fty g.1 (parseFieldDescriptor (en_fld c i0).2.2.1) && (bif Nat.beq g.1 5 then la_obj g.2.2 && la_obj (g.2.2 + 1) && la_obj (g.2.2 + 2) else true) && la_tds c (i0 + 1) r) = true := h
    simp only [Bool.and_eq_true] at hh
    cases i with
    | zero =>
      cases hf
      refine ⟨hh.1.1, fun e => ?_⟩
      have := hh.1.2
      rw [e] at this
      simp only [show Nat.beq 5 5 = true from rfl, cond_true, Bool.and_eq_true] at this
      exact ⟨this.1.1, this.1.2, this.2⟩
    | succ i =>
      have := la_tds_at (i0 := i0 + 1) hh.2 (show r[i]? = some f from hf)
      rw [show i0 + (i + 1) = i0 + 1 + i by omega]
      exact this
theorem la_tdx {k : Nat} {b : Int} {c : Nat} {fs : List (Nat × Nat × Nat)} {i : Nat} {f : Nat × Nat × Nat} (hq : (k, b) ∈ en_C) (hk : en_K k = .inl (c, fs)) (hf : fs[i]? = some f) : la_fty f.1 (parseFieldDescriptor (en_fld c i).2.2.1) = true ∧ (f.1 = 5 → la_obj f.2.2 = true ∧ la_obj (f.2.2 + 1) = true ∧ la_obj (f.2.2 + 2) = true) := by
  have h := List.all_eq_true.mp la_tdok _ hq
  unfold la_tdq at h
  dsimp only at h
  rw [hk] at h
  have := la_tds_at h hf
  rw [Nat.zero_add] at this
  exact this
theorem la_5 {k : Nat} {b : Int} {c : Nat} {fs : List (Nat × Nat × Nat)} {i rr t : Nat} (hq : (k, b) ∈ en_C) (hk : en_K k = .inl (c, fs)) (hf : fs[i]? = some (5, rr, t)) : la_obj t = true ∧ la_obj (t + 1) = true ∧ la_obj (t + 2) = true := (la_tdx hq hk hf).2 rfl
theorem la_td {k : Nat} {b : Int} {c : Nat} {fs : List (Nat × Nat × Nat)} {i : Nat} {f : Nat × Nat × Nat} {q : vw_C} (hq : (k, b) ∈ en_C) (hk : en_K k = .inl (c, fs)) (hf : fs[i]? = some f) (hc : classes[c]? = some q) : (match f.1 with
    | 0 => parseFieldDescriptor (q.2.1 i).2.2.1 = some .int
    | 1 => parseFieldDescriptor (q.2.1 i).2.2.1 = some .boolean
    | 2 => parseFieldDescriptor (q.2.1 i).2.2.1 = some .long
    | 4 => ∃ ty, parseFieldDescriptor (q.2.1 i).2.2.1 = some (.array ty)
    | 5 => ∃ ty, parseFieldDescriptor (q.2.1 i).2.2.1 = some (.object ty)
    | _ => True) := by
  have h := (la_tdx hq hk hf).1
  unfold en_fld at h
  rw [hc] at h
  dsimp only at h
  generalize parseFieldDescriptor (q.2.1 i).2.2.1 = o at h ⊢
  obtain ⟨tag, rr, t⟩ := f
  dsimp only at h ⊢
  unfold la_fty at h
  split at h <;> first | rfl | exact ⟨_, rfl⟩ | trivial | cases h

section SN2
variable {p : Program} {l : Launch} {e : Env} {R : Room} {s : State} {m : MethodId} {args : Array Value} {below : List Frame} {meth : Method} {c : Code} {H H0 : Heap} {locs : List Loc} {cells slots : Nat} {Q : State → Prop} {z : Nat} {ad : Nat → Int → Nat} {cA : Nat → ClassId} {D : va_G} {A : Nat → Prop} {lsA : Array Slot}
theorem en_K_cls {c : Nat} {q : Nat × Int} {fs : List (Nat × Nat × Nat)} {σ : en_m} (hk : en_K q.1 = .inl (c, fs)) : en_en ad cA σ q = .inr (c, fs.map (en_fv ad σ)) := by unfold en_en; rw [hk]
theorem en_fN_of {a b : Nat} (h : Nat.blt b (en_fN a) = true) : ∃ q : vw_C, classes[a]? = some q ∧ b < q.2.2 ∧ en_fld a b = q.2.1 b := by
  unfold en_fN en_fld at *
  cases hq : classes[a]? with
  | none => rw [hq] at h; cases h
  | some q =>
    rw [hq] at h
    exact ⟨q, rfl, Nat.le_of_ble_eq_true h, rfl⟩
theorem en_upd_i {n : Nat} {g : Int → Int} {b : Int} {j : Nat} {v : Int} (hj : j < n) : upd (en_fi n g b) j (Int32.ofInt v) = en_fi n (up g (b + j) v) b := by
  funext t
  unfold upd en_fi up
  by_cases e : t = j
  · subst e
    simp [hj]
  · have : ¬ (b + (t : Int) = b + (j : Int)) := by omega
    simp [e, this]
theorem en_upd_l {n : Nat} {g : Int → Int} {b : Int} {j : Nat} {v : Int} (hj : j < n) : vp_updL (en_fl n g b) j (Int64.ofInt v) = en_fl n (up g (b + j) v) b := by
  funext t
  unfold vp_updL en_fl up
  by_cases e : t = j
  · subst e
    simp [hj]
  · have : ¬ (b + (t : Int) = b + (j : Int)) := by omega
    simp [e, this]
theorem en_ofNat {z : Int} (h : 0 ≤ z) : ((z.toNat : Nat) : Int) = z := Int.toNat_of_nonneg h

theorem en_snd_arraylength (E : en_E z p s m args meth c R) (hK : va_K D classes (en_tys cA) s) {pc len a b j : Nat} {x : Int} {ls : en_l} {st : List en_v} {σ : en_m}  (hc : en_chk z (pc, .arraylength, len, a, b, j, x) = true) (S : en_S ad cA D A H0 (en_mL z) lsA ls st H locs σ) {y : en_x} (h : en_st (pc, .arraylength, len, a, b, j, x) ls st σ = some y) (K : ∀ (H1 : Heap) (locs1 : List Loc) (lsA1 : Array Slot), en_S ad cA D A H0 (en_mL z) lsA1 y.2.1 y.2.2.1 H1 locs1 y.2.2.2 → W p l e R s m args below meth c H1 locs1 0 0 Q (F0 m y.1 lsA1 (y.2.2.1.map (en_rv ad)))) : W p l e R s m args below meth c H locs 0 0 Q (F0 m pc lsA (st.map (en_rv ad))) := by
  obtain ⟨hx, hb, hml, hown, hts, hr, hlk, hfr, hlo⟩ := E
  obtain ⟨hP, hD, hS, hl, hlok, hsok⟩ := S
  unfold en_chk at hc
  simp only [Bool.and_eq_true, decide_eq_true_eq] at hc
  unfold en_st at h
  dsimp only at h
  obtain ⟨hd, hlen⟩ := hc
  have hlen := Nat.eq_of_beq_eq_true hlen
  subst hlen
  split at h
  · rename_i k o r
    split at h
    · rename_i t n t2 hk
      cases ht : Nat.ble t 4 with
      | false => rw [ht] at h; cases h
      | true =>
        rw [ht] at h
        cases h
        have hq : (k, o) ∈ en_C := hsok _ List.mem_cons_self
        obtain ⟨q0, -, hw⟩ := en_W_at (ad := ad) (cA := cA) (σ := σ) hq
        have hen : en_en ad cA σ (k, o) = en_ar ad cA (σ k) o (t, n, t2) := by unfold en_en; dsimp only; rw [hk]
        rw [hen] at hw
        have K1 := K H locs lsA ⟨hP, hD, hS, hl, hlok, List.forall_mem_cons.mpr ⟨trivial, fun w hw => hsok w (List.mem_cons_of_mem _ hw)⟩⟩
        have e1 : Int32.ofNat n = Int32.ofInt (n : Int) := nu_nat n
        match t, Nat.le_of_ble_eq_true ht, hw with
        | 0, _, hw => exact va_alen hx hb hK hP q0 0 (ty := .int) hw rfl e1 hd K1
        | 1, _, hw => exact va_alen hx hb hK hP q0 1 (ty := .byte) hw rfl e1 hd K1
        | 2, _, hw => exact va_alen hx hb hK hP q0 2 (ty := .boolean) hw rfl e1 hd K1
        | 3, _, hw => exact va_alen hx hb hK hP q0 3 (ty := .long) hw rfl e1 hd K1
        | 4, _, hw => exact va_alen hx hb hK hP q0 4 (ty := .array .int) hw rfl e1 hd K1
    · cases h
  · cases h
theorem en_snd_iaload (E : en_E z p s m args meth c R) (hK : va_K D classes (en_tys cA) s) {pc len a b j : Nat} {x : Int} {ls : en_l} {st : List en_v} {σ : en_m}  (hc : en_chk z (pc, .iaload, len, a, b, j, x) = true) (S : en_S ad cA D A H0 (en_mL z) lsA ls st H locs σ) {y : en_x} (h : en_st (pc, .iaload, len, a, b, j, x) ls st σ = some y) (K : ∀ (H1 : Heap) (locs1 : List Loc) (lsA1 : Array Slot), en_S ad cA D A H0 (en_mL z) lsA1 y.2.1 y.2.2.1 H1 locs1 y.2.2.2 → W p l e R s m args below meth c H1 locs1 0 0 Q (F0 m y.1 lsA1 (y.2.2.1.map (en_rv ad)))) : W p l e R s m args below meth c H locs 0 0 Q (F0 m pc lsA (st.map (en_rv ad))) := by
  obtain ⟨hx, hb, hml, hown, hts, hr, hlk, hfr, hlo⟩ := E
  obtain ⟨hP, hD, hS, hl, hlok, hsok⟩ := S
  unfold en_chk at hc
  simp only [Bool.and_eq_true, decide_eq_true_eq] at hc
  unfold en_st at h
  dsimp only at h
  obtain ⟨hd, hlen⟩ := hc
  have hlen := Nat.eq_of_beq_eq_true hlen
  subst hlen
  split at h
  · rename_i j k o r
    split at h
    · rename_i n t2 hk
      split at h
      · rename_i hj
        cases h
        have hq : (k, o) ∈ en_C := hsok _ (List.mem_cons_of_mem _ List.mem_cons_self)
        obtain ⟨q0, -, hw⟩ := en_W_at (ad := ad) (cA := cA) (σ := σ) hq
        have hen : en_en ad cA σ (k, o) = .inl (cA 0, n, .inl (en_fi n (σ k) o)) := by unfold en_en; dsimp only; rw [hk]; rfl
        rw [hen] at hw
        obtain ⟨hin, hix⟩ := nu_ix hj
        refine va_iald hx hb hK hP q0 0 hw rfl hin hd ?_
        have e1 : en_fi n (σ k) o (Int32.ofInt j).toNatClampNeg = Int32.ofInt (σ k (o + w32 j)) := by
          rw [hix]
          unfold en_fi
          rw [if_pos (by omega), en_ofNat hj.1]
        rw [e1]
        exact K H locs lsA ⟨hP, hD, hS, hl, hlok, List.forall_mem_cons.mpr ⟨trivial, fun w hw => hsok w (List.mem_cons_of_mem _ (List.mem_cons_of_mem _ hw))⟩⟩
      · cases h
    · cases h
  · cases h
theorem en_snd_baload (E : en_E z p s m args meth c R) (hK : va_K D classes (en_tys cA) s) {pc len a b j : Nat} {x : Int} {ls : en_l} {st : List en_v} {σ : en_m}  (hc : en_chk z (pc, .baload, len, a, b, j, x) = true) (S : en_S ad cA D A H0 (en_mL z) lsA ls st H locs σ) {y : en_x} (h : en_st (pc, .baload, len, a, b, j, x) ls st σ = some y) (K : ∀ (H1 : Heap) (locs1 : List Loc) (lsA1 : Array Slot), en_S ad cA D A H0 (en_mL z) lsA1 y.2.1 y.2.2.1 H1 locs1 y.2.2.2 → W p l e R s m args below meth c H1 locs1 0 0 Q (F0 m y.1 lsA1 (y.2.2.1.map (en_rv ad)))) : W p l e R s m args below meth c H locs 0 0 Q (F0 m pc lsA (st.map (en_rv ad))) := by
  obtain ⟨hx, hb, hml, hown, hts, hr, hlk, hfr, hlo⟩ := E
  obtain ⟨hP, hD, hS, hl, hlok, hsok⟩ := S
  unfold en_chk at hc
  simp only [Bool.and_eq_true, decide_eq_true_eq] at hc
  unfold en_st at h
  dsimp only at h
  obtain ⟨hd, hlen⟩ := hc
  have hlen := Nat.eq_of_beq_eq_true hlen
  subst hlen
  split at h
  · rename_i j k o r
    split at h
    · rename_i n t2 hk
      split at h
      · rename_i hj
        cases h
        have hq : (k, o) ∈ en_C := hsok _ (List.mem_cons_of_mem _ List.mem_cons_self)
        obtain ⟨q0, -, hw⟩ := en_W_at (ad := ad) (cA := cA) (σ := σ) hq
        have hen : en_en ad cA σ (k, o) = .inl (cA 1, n, .inl (en_fi n (σ k) o)) := by unfold en_en; dsimp only; rw [hk]; rfl
        rw [hen] at hw
        obtain ⟨hin, hix⟩ := nu_ix hj
        refine va_bald hx hb hK hP q0 1 hw rfl hin hd ?_
        have e1 : en_fi n (σ k) o (Int32.ofInt j).toNatClampNeg = Int32.ofInt (σ k (o + w32 j)) := by
          rw [hix]
          unfold en_fi
          rw [if_pos (by omega), en_ofNat hj.1]
        rw [e1]
        exact K H locs lsA ⟨hP, hD, hS, hl, hlok, List.forall_mem_cons.mpr ⟨trivial, fun w hw => hsok w (List.mem_cons_of_mem _ (List.mem_cons_of_mem _ hw))⟩⟩
      · cases h
    · rename_i n t2 hk
      split at h
      · rename_i hj
        cases h
        have hq : (k, o) ∈ en_C := hsok _ (List.mem_cons_of_mem _ List.mem_cons_self)
        obtain ⟨q0, -, hw⟩ := en_W_at (ad := ad) (cA := cA) (σ := σ) hq
        have hen : en_en ad cA σ (k, o) = .inl (cA 2, n, .inl (en_fi n (σ k) o)) := by unfold en_en; dsimp only; rw [hk]; rfl
        rw [hen] at hw
        obtain ⟨hin, hix⟩ := nu_ix hj
        refine va_zald hx hb hK hP q0 2 hw rfl hin hd ?_
        have e1 : en_fi n (σ k) o (Int32.ofInt j).toNatClampNeg = Int32.ofInt (σ k (o + w32 j)) := by
          rw [hix]
          unfold en_fi
          rw [if_pos (by omega), en_ofNat hj.1]
        rw [e1]
        exact K H locs lsA ⟨hP, hD, hS, hl, hlok, List.forall_mem_cons.mpr ⟨trivial, fun w hw => hsok w (List.mem_cons_of_mem _ (List.mem_cons_of_mem _ hw))⟩⟩
      · cases h
    · cases h
  · cases h
theorem en_snd_laload (E : en_E z p s m args meth c R) (hK : va_K D classes (en_tys cA) s) {pc len a b j : Nat} {x : Int} {ls : en_l} {st : List en_v} {σ : en_m}  (hc : en_chk z (pc, .laload, len, a, b, j, x) = true) (S : en_S ad cA D A H0 (en_mL z) lsA ls st H locs σ) {y : en_x} (h : en_st (pc, .laload, len, a, b, j, x) ls st σ = some y) (K : ∀ (H1 : Heap) (locs1 : List Loc) (lsA1 : Array Slot), en_S ad cA D A H0 (en_mL z) lsA1 y.2.1 y.2.2.1 H1 locs1 y.2.2.2 → W p l e R s m args below meth c H1 locs1 0 0 Q (F0 m y.1 lsA1 (y.2.2.1.map (en_rv ad)))) : W p l e R s m args below meth c H locs 0 0 Q (F0 m pc lsA (st.map (en_rv ad))) := by
  obtain ⟨hx, hb, hml, hown, hts, hr, hlk, hfr, hlo⟩ := E
  obtain ⟨hP, hD, hS, hl, hlok, hsok⟩ := S
  unfold en_chk at hc
  simp only [Bool.and_eq_true, decide_eq_true_eq] at hc
  unfold en_st at h
  dsimp only at h
  obtain ⟨hd, hlen⟩ := hc
  have hlen := Nat.eq_of_beq_eq_true hlen
  subst hlen
  split at h
  · rename_i j k o r
    split at h
    · rename_i n t2 hk
      split at h
      · rename_i hj
        cases h
        have hq : (k, o) ∈ en_C := hsok _ (List.mem_cons_of_mem _ List.mem_cons_self)
        obtain ⟨q0, -, hw⟩ := en_W_at (ad := ad) (cA := cA) (σ := σ) hq
        have hen : en_en ad cA σ (k, o) = .inl (cA 3, n, .inr (.inl (en_fl n (σ k) o))) := by unfold en_en; dsimp only; rw [hk]; rfl
        rw [hen] at hw
        obtain ⟨hin, hix⟩ := nu_ix hj
        refine va_lald hx hb hK hP q0 3 hw rfl hin hd ?_
        have e1 : en_fl n (σ k) o (Int32.ofInt j).toNatClampNeg = Int64.ofInt (σ k (o + w32 j)) := by
          rw [hix]
          unfold en_fl
          rw [if_pos (by omega), en_ofNat hj.1]
        rw [e1]
        exact K H locs lsA ⟨hP, hD, hS, hl, hlok, List.forall_mem_cons.mpr ⟨trivial, fun w hw => hsok w (List.mem_cons_of_mem _ (List.mem_cons_of_mem _ hw))⟩⟩
      · cases h
    · cases h
  · cases h
theorem en_snd_aaload (E : en_E z p s m args meth c R) (hK : va_K D classes (en_tys cA) s) {pc len a b j : Nat} {x : Int} {ls : en_l} {st : List en_v} {σ : en_m}  (hc : en_chk z (pc, .aaload, len, a, b, j, x) = true) (S : en_S ad cA D A H0 (en_mL z) lsA ls st H locs σ) {y : en_x} (h : en_st (pc, .aaload, len, a, b, j, x) ls st σ = some y) (K : ∀ (H1 : Heap) (locs1 : List Loc) (lsA1 : Array Slot), en_S ad cA D A H0 (en_mL z) lsA1 y.2.1 y.2.2.1 H1 locs1 y.2.2.2 → W p l e R s m args below meth c H1 locs1 0 0 Q (F0 m y.1 lsA1 (y.2.2.1.map (en_rv ad)))) : W p l e R s m args below meth c H locs 0 0 Q (F0 m pc lsA (st.map (en_rv ad))) := by
  obtain ⟨hx, hb, hml, hown, hts, hr, hlk, hfr, hlo⟩ := E
  obtain ⟨hP, hD, hS, hl, hlok, hsok⟩ := S
  unfold en_chk at hc
  simp only [Bool.and_eq_true, decide_eq_true_eq] at hc
  unfold en_st at h
  dsimp only at h
  obtain ⟨hd, hlen⟩ := hc
  have hlen := Nat.eq_of_beq_eq_true hlen
  subst hlen
  split at h
  · rename_i j k o r
    split at h
    · rename_i n t2 hk
      split at h
      · rename_i hj
        cases h
        have hq : (k, o) ∈ en_C := hsok _ (List.mem_cons_of_mem _ List.mem_cons_self)
        obtain ⟨q0, -, hw⟩ := en_W_at (ad := ad) (cA := cA) (σ := σ) hq
        have hen : en_en ad cA σ (k, o) = .inl (cA 4, n, .inr (.inr (.inr (.inr (fun j => some (ad t2 (j * en_len t2))))))) := by unfold en_en; dsimp only; rw [hk]; rfl
        rw [hen] at hw
        obtain ⟨hin, hix⟩ := nu_ix hj
        have hlt : (Int32.ofInt j).toNatClampNeg < n := by rw [hix]; omega
        have hrow := (la_arr hq hk).2.2 rfl
        refine W.aald (v := .ref (ad t2 (w32 j * en_len t2))) (ty := .array .int) hx hb (hP q0 _ hw) ((hK.2 4 _ rfl).1 n (fun j => va_rf (some (ad t2 (j * en_len t2))))) rfl (fun q => by cases q) (by show ¬ (_ ∨ (arrV _ _ _).slots.size ≤ _); rw [arrV_size]; exact hin) (by show (arrV _ _ _).slots[_]? = _; rw [arrV_read _ _ hlt, hix]; show some (va_rf (some _)) = _; rw [en_ofNat hj.1]; rfl) rfl rfl hd ?_
        have hok : en_ok (.inr (.inr (t2, w32 j * en_len t2))) := by
          have h3 := hrow.1 (w32 j).toNat (by omega)
          rw [en_ofNat hj.1] at h3
          exact h3
        exact K H locs lsA ⟨hP, hD, hS, hl, hlok, List.forall_mem_cons.mpr ⟨hok, fun w hw => hsok w (List.mem_cons_of_mem _ (List.mem_cons_of_mem _ hw))⟩⟩
      · cases h
    · cases h
  · cases h
theorem nu_byte {v : Int} (h : -128 ≤ v ∧ v < 128) : vp_nar .byte (Int32.ofInt v) = Int32.ofInt v := by
  have : (Int32.ofInt v).toInt8.toInt32 = Int32.ofInt v := by
    rw [nu_i2b]
    congr 1
    unfold en_i2b
    rw [Int.bmod_def]
    split <;> omega
  exact this
theorem en_snd_iastore (E : en_E z p s m args meth c R) (hK : va_K D classes (en_tys cA) s) {pc len a b j : Nat} {x : Int} {ls : en_l} {st : List en_v} {σ : en_m}  (hc : en_chk z (pc, .iastore, len, a, b, j, x) = true) (S : en_S ad cA D A H0 (en_mL z) lsA ls st H locs σ) {y : en_x} (h : en_st (pc, .iastore, len, a, b, j, x) ls st σ = some y) (K : ∀ (H1 : Heap) (locs1 : List Loc) (lsA1 : Array Slot), en_S ad cA D A H0 (en_mL z) lsA1 y.2.1 y.2.2.1 H1 locs1 y.2.2.2 → W p l e R s m args below meth c H1 locs1 0 0 Q (F0 m y.1 lsA1 (y.2.2.1.map (en_rv ad)))) : W p l e R s m args below meth c H locs 0 0 Q (F0 m pc lsA (st.map (en_rv ad))) := by
  obtain ⟨hx, hb, hml, hown, hts, hr, hlk, hfr, hlo⟩ := E
  obtain ⟨hP, hD, hS, hl, hlok, hsok⟩ := S
  unfold en_chk at hc
  simp only [Bool.and_eq_true, decide_eq_true_eq] at hc
  unfold en_st at h
  dsimp only at h
  obtain ⟨hd, hlen⟩ := hc
  have hlen := Nat.eq_of_beq_eq_true hlen
  subst hlen
  split at h
  · rename_i v j k o r
    split at h
    · rename_i n t2 hk
      split at h
      · rename_i hj
        cases h
        have hq : (k, o) ∈ en_C := hsok _ (List.mem_cons_of_mem _ (List.mem_cons_of_mem _ List.mem_cons_self))
        obtain ⟨q0, hq0, hw⟩ := en_W_at (ad := ad) (cA := cA) (σ := σ) hq
        have hen : en_en ad cA σ (k, o) = .inl (cA 0, n, .inl (en_fi n (σ k) o)) := by unfold en_en; dsimp only; rw [hk]; rfl
        rw [hen] at hw
        obtain ⟨hin, hix⟩ := nu_ix hj
        have hjj := hj
        have hset : (en_W ad cA σ).set q0 (ad k o, .inl (cA 0, n, .inl (en_fi n (up (σ k) (o + w32 j) v) o))) = en_W ad cA (sr σ k (up (σ k) (o + w32 j) v)) := by
          refine en_W_set hq0 ?_ (en_o_arr hq hk (fun x hx => ?_))
          · unfold en_en; dsimp only; rw [hk, sr_same]; rfl
          · unfold up; rw [if_neg (by omega)]
        have hnar : True := trivial
        refine va_iast hx hb hK hP hD hS q0 0 hw rfl hin hd (fun H1 locs1 hP1 hD1 hS1 => ?_)
        have he : upd (en_fi n (σ k) o) (Int32.ofInt j).toNatClampNeg (Int32.ofInt v) = en_fi n (up (σ k) (o + w32 j) v) o := by
          rw [hix]
          have := en_upd_i (n := n) (g := σ k) (b := o) (j := (w32 j).toNat) (v := v) (by omega)
          rw [en_ofNat hjj.1] at this
          exact this
        rw [he, hset] at hP1 hD1
        exact K H1 locs1 lsA ⟨hP1, hD1, hS1, hl, hlok, fun w hw => hsok w (List.mem_cons_of_mem _ (List.mem_cons_of_mem _ (List.mem_cons_of_mem _ hw)))⟩
      · cases h
    · cases h
  · cases h
theorem en_snd_bastore (E : en_E z p s m args meth c R) (hK : va_K D classes (en_tys cA) s) {pc len a b j : Nat} {x : Int} {ls : en_l} {st : List en_v} {σ : en_m}  (hc : en_chk z (pc, .bastore, len, a, b, j, x) = true) (S : en_S ad cA D A H0 (en_mL z) lsA ls st H locs σ) {y : en_x} (h : en_st (pc, .bastore, len, a, b, j, x) ls st σ = some y) (K : ∀ (H1 : Heap) (locs1 : List Loc) (lsA1 : Array Slot), en_S ad cA D A H0 (en_mL z) lsA1 y.2.1 y.2.2.1 H1 locs1 y.2.2.2 → W p l e R s m args below meth c H1 locs1 0 0 Q (F0 m y.1 lsA1 (y.2.2.1.map (en_rv ad)))) : W p l e R s m args below meth c H locs 0 0 Q (F0 m pc lsA (st.map (en_rv ad))) := by
  obtain ⟨hx, hb, hml, hown, hts, hr, hlk, hfr, hlo⟩ := E
  obtain ⟨hP, hD, hS, hl, hlok, hsok⟩ := S
  unfold en_chk at hc
  simp only [Bool.and_eq_true, decide_eq_true_eq] at hc
  unfold en_st at h
  dsimp only at h
  obtain ⟨hd, hlen⟩ := hc
  have hlen := Nat.eq_of_beq_eq_true hlen
  subst hlen
  split at h
  · rename_i v j k o r
    split at h
    · rename_i n t2 hk
      split at h
      · rename_i hjv
        cases h
        have hq : (k, o) ∈ en_C := hsok _ (List.mem_cons_of_mem _ (List.mem_cons_of_mem _ List.mem_cons_self))
        obtain ⟨q0, hq0, hw⟩ := en_W_at (ad := ad) (cA := cA) (σ := σ) hq
        have hen : en_en ad cA σ (k, o) = .inl (cA 1, n, .inl (en_fi n (σ k) o)) := by unfold en_en; dsimp only; rw [hk]; rfl
        rw [hen] at hw
        obtain ⟨hin, hix⟩ := nu_ix hjv.1
        have hjj := hjv.1
        have hset : (en_W ad cA σ).set q0 (ad k o, .inl (cA 1, n, .inl (en_fi n (up (σ k) (o + w32 j) v) o))) = en_W ad cA (sr σ k (up (σ k) (o + w32 j) v)) := by
          refine en_W_set hq0 ?_ (en_o_arr hq hk (fun x hx => ?_))
          · unfold en_en; dsimp only; rw [hk, sr_same]; rfl
          · unfold up; rw [if_neg (by omega)]
        have hnar : vp_nar .byte (Int32.ofInt v) = Int32.ofInt v := by
          have hv := hjv.2
          rw [nu_byte hv]
        refine va_bast hx hb hK hP hD hS q0 1 hw rfl hin hd (fun H1 locs1 hP1 hD1 hS1 => ?_)
        have he : upd (en_fi n (σ k) o) (Int32.ofInt j).toNatClampNeg (vp_nar .byte (Int32.ofInt v)) = en_fi n (up (σ k) (o + w32 j) v) o := by
          rw [hix, hnar]
          have := en_upd_i (n := n) (g := σ k) (b := o) (j := (w32 j).toNat) (v := v) (by omega)
          rw [en_ofNat hjj.1] at this
          exact this
        rw [he, hset] at hP1 hD1
        exact K H1 locs1 lsA ⟨hP1, hD1, hS1, hl, hlok, fun w hw => hsok w (List.mem_cons_of_mem _ (List.mem_cons_of_mem _ (List.mem_cons_of_mem _ hw)))⟩
      · cases h
    · rename_i n t2 hk
      split at h
      · rename_i hjv
        cases h
        have hq : (k, o) ∈ en_C := hsok _ (List.mem_cons_of_mem _ (List.mem_cons_of_mem _ List.mem_cons_self))
        obtain ⟨q0, hq0, hw⟩ := en_W_at (ad := ad) (cA := cA) (σ := σ) hq
        have hen : en_en ad cA σ (k, o) = .inl (cA 2, n, .inl (en_fi n (σ k) o)) := by unfold en_en; dsimp only; rw [hk]; rfl
        rw [hen] at hw
        obtain ⟨hin, hix⟩ := nu_ix hjv.1
        have hjj := hjv.1
        have hset : (en_W ad cA σ).set q0 (ad k o, .inl (cA 2, n, .inl (en_fi n (up (σ k) (o + w32 j) v) o))) = en_W ad cA (sr σ k (up (σ k) (o + w32 j) v)) := by
          refine en_W_set hq0 ?_ (en_o_arr hq hk (fun x hx => ?_))
          · unfold en_en; dsimp only; rw [hk, sr_same]; rfl
          · unfold up; rw [if_neg (by omega)]
        have hnar : vp_nar .boolean (Int32.ofInt v) = Int32.ofInt v := by
          have hv := hjv.2
          rcases hv with rfl | rfl <;> rfl
        refine va_zast hx hb hK hP hD hS q0 2 hw rfl hin hd (fun H1 locs1 hP1 hD1 hS1 => ?_)
        have he : upd (en_fi n (σ k) o) (Int32.ofInt j).toNatClampNeg (vp_nar .boolean (Int32.ofInt v)) = en_fi n (up (σ k) (o + w32 j) v) o := by
          rw [hix, hnar]
          have := en_upd_i (n := n) (g := σ k) (b := o) (j := (w32 j).toNat) (v := v) (by omega)
          rw [en_ofNat hjj.1] at this
          exact this
        rw [he, hset] at hP1 hD1
        exact K H1 locs1 lsA ⟨hP1, hD1, hS1, hl, hlok, fun w hw => hsok w (List.mem_cons_of_mem _ (List.mem_cons_of_mem _ (List.mem_cons_of_mem _ hw)))⟩
      · cases h
    · cases h
  · cases h
theorem en_snd_lastore (E : en_E z p s m args meth c R) (hK : va_K D classes (en_tys cA) s) {pc len a b j : Nat} {x : Int} {ls : en_l} {st : List en_v} {σ : en_m}  (hc : en_chk z (pc, .lastore, len, a, b, j, x) = true) (S : en_S ad cA D A H0 (en_mL z) lsA ls st H locs σ) {y : en_x} (h : en_st (pc, .lastore, len, a, b, j, x) ls st σ = some y) (K : ∀ (H1 : Heap) (locs1 : List Loc) (lsA1 : Array Slot), en_S ad cA D A H0 (en_mL z) lsA1 y.2.1 y.2.2.1 H1 locs1 y.2.2.2 → W p l e R s m args below meth c H1 locs1 0 0 Q (F0 m y.1 lsA1 (y.2.2.1.map (en_rv ad)))) : W p l e R s m args below meth c H locs 0 0 Q (F0 m pc lsA (st.map (en_rv ad))) := by
  obtain ⟨hx, hb, hml, hown, hts, hr, hlk, hfr, hlo⟩ := E
  obtain ⟨hP, hD, hS, hl, hlok, hsok⟩ := S
  unfold en_chk at hc
  simp only [Bool.and_eq_true, decide_eq_true_eq] at hc
  unfold en_st at h
  dsimp only at h
  obtain ⟨hd, hlen⟩ := hc
  have hlen := Nat.eq_of_beq_eq_true hlen
  subst hlen
  split at h
  · rename_i v j k o r
    split at h
    · rename_i n t2 hk
      split at h
      · rename_i hj
        cases h
        have hq : (k, o) ∈ en_C := hsok _ (List.mem_cons_of_mem _ (List.mem_cons_of_mem _ List.mem_cons_self))
        obtain ⟨q0, hq0, hw⟩ := en_W_at (ad := ad) (cA := cA) (σ := σ) hq
        have hen : en_en ad cA σ (k, o) = .inl (cA 3, n, .inr (.inl (en_fl n (σ k) o))) := by unfold en_en; dsimp only; rw [hk]; rfl
        rw [hen] at hw
        obtain ⟨hin, hix⟩ := nu_ix hj
        have hjj := hj
        have hset : (en_W ad cA σ).set q0 (ad k o, .inl (cA 3, n, .inr (.inl (en_fl n (up (σ k) (o + w32 j) v) o)))) = en_W ad cA (sr σ k (up (σ k) (o + w32 j) v)) := by
          refine en_W_set hq0 ?_ (en_o_arr hq hk (fun x hx => ?_))
          · unfold en_en; dsimp only; rw [hk, sr_same]; rfl
          · unfold up; rw [if_neg (by omega)]
        have hnar : True := trivial
        refine va_last hx hb hK hP hD hS q0 3 hw rfl hin hd (fun H1 locs1 hP1 hD1 hS1 => ?_)
        have he : vp_updL (en_fl n (σ k) o) (Int32.ofInt j).toNatClampNeg (Int64.ofInt v) = en_fl n (up (σ k) (o + w32 j) v) o := by
          rw [hix]
          have := en_upd_l (n := n) (g := σ k) (b := o) (j := (w32 j).toNat) (v := v) (by omega)
          rw [en_ofNat hjj.1] at this
          exact this
        rw [he, hset] at hP1 hD1
        exact K H1 locs1 lsA ⟨hP1, hD1, hS1, hl, hlok, fun w hw => hsok w (List.mem_cons_of_mem _ (List.mem_cons_of_mem _ (List.mem_cons_of_mem _ hw)))⟩
      · cases h
    · cases h
  · cases h
theorem en_snd_getfield (E : en_E z p s m args meth c R) (hK : va_K D classes (en_tys cA) s) {pc len a b j : Nat} {x : Int} {ls : en_l} {st : List en_v} {σ : en_m} {kk : Nat} (hc : en_chk z (pc, .getfield kk, len, a, b, j, x) = true) (S : en_S ad cA D A H0 (en_mL z) lsA ls st H locs σ) {y : en_x} (h : en_st (pc, .getfield kk, len, a, b, j, x) ls st σ = some y) (K : ∀ (H1 : Heap) (locs1 : List Loc) (lsA1 : Array Slot), en_S ad cA D A H0 (en_mL z) lsA1 y.2.1 y.2.2.1 H1 locs1 y.2.2.2 → W p l e R s m args below meth c H1 locs1 0 0 Q (F0 m y.1 lsA1 (y.2.2.1.map (en_rv ad)))) : W p l e R s m args below meth c H locs 0 0 Q (F0 m pc lsA (st.map (en_rv ad))) := by
  obtain ⟨hx, hb, hml, hown, hts, hr, hlk, hfr, hlo⟩ := E
  obtain ⟨hP, hD, hS, hl, hlok, hsok⟩ := S
  unfold en_chk at hc
  simp only [Bool.and_eq_true, decide_eq_true_eq] at hc
  unfold en_st at h
  dsimp only at h
  obtain ⟨hd, hlen, hw, hbN⟩ := hc
  have hlen := Nat.eq_of_beq_eq_true hlen
  subst hlen
  obtain ⟨q, hq, hbM, hfq⟩ := en_fN_of hbN
  rw [hfq] at hw
  obtain ⟨hin, ty0, hty, hnm⟩ := en_cls hq
  split at h
  · rename_i k o r
    split at h
    · rename_i cc fs hk
      cases hca : Nat.beq cc a with
      | false => rw [hca] at h; cases h
      | true =>
        rw [hca] at h
        have hca := Nat.eq_of_beq_eq_true hca
        subst hca
        dsimp only [cond_true] at h
        split at h
        · rename_i f hf
          split at h
          · rename_i v hv
            cases h
            have hqC : (k, o) ∈ en_C := hsok _ List.mem_cons_self
            obtain ⟨q0, -, hw0⟩ := en_W_at (ad := ad) (cA := cA) (σ := σ) hqC
            rw [en_K_cls (q := (k, o)) hk] at hw0
            obtain ⟨-, hfo⟩ := la_field hqC hk hf
            have hval : en_fv ad σ f = en_rv ad v ∧ en_ok v := by
              obtain ⟨tag, rr, t⟩ := f
              unfold la_fok at hfo
              unfold en_fg at hv
              match tag, hv, hfo with
              | 0, hv, _ => cases hv; exact ⟨rfl, trivial⟩
              | 1, hv, _ => cases hv; exact ⟨rfl, trivial⟩
              | 2, hv, _ => cases hv; exact ⟨rfl, trivial⟩
              | 3, hv, hfo => cases hv; exact ⟨rfl, la_mem_of hfo⟩
              | 4, hv, hfo =>
                simp only [Bool.and_eq_true] at hfo
                have hv : (if σ rr 0 = 0 ∨ σ rr 0 = (en_len t : Int) then some (Sum.inr (Sum.inr (t, σ rr 0))) else none) = some v := hv
                split at hv
                · rename_i hc
                  cases hv
                  refine ⟨rfl, ?_⟩
                  show (t, σ rr 0) ∈ en_C
                  rcases hc with hc | hc
                  · rw [hc]; exact la_mem_of hfo.1.1.2
                  · rw [hc]; exact la_mem_of hfo.1.2
                · cases hv
              | 5, hv, hfo =>
                simp only [Bool.and_eq_true] at hfo
                have hv : (if σ rr 0 = 0 then some (Sum.inr (Sum.inr (t, 0))) else if σ rr 0 = 1 then some (Sum.inr (Sum.inr (t + 1, 0))) else if σ rr 0 = 2 then some (Sum.inr (Sum.inr (t + 2, 0))) else none) = some v := hv
                split at hv
                · rename_i hc
                  cases hv
                  refine ⟨?_, la_mem_of hfo.1.1.2⟩
                  show Value.ref (ad (t + (σ rr 0).toNat) 0) = .ref (ad t 0)
                  rw [hc]; rfl
                · split at hv
                  · rename_i hc
                    cases hv
                    refine ⟨?_, la_mem_of hfo.1.2⟩
                    show Value.ref (ad (t + (σ rr 0).toNat) 0) = .ref (ad (t + 1) 0)
                    rw [hc]; rfl
                  · split at hv
                    · rename_i hc
                      cases hv
                      refine ⟨?_, la_mem_of hfo.2⟩
                      show Value.ref (ad (t + (σ rr 0).toNat) 0) = .ref (ad (t + 2) 0)
                      rw [hc]; rfl
                    · cases hv
              | _ + 6, hv, _ => cases hv
            refine va_get (C := q.1) (T := q.2.1) (N := q.2.2) hx hb hts hin hown hK hP q0 hw0 hq b hbM (hts _ (en_wd_in hw)) (fun _ h => h) (v := en_rv ad v) (by rw [List.getElem?_map, hf]; exact congrArg some hval.1) hd ?_
            exact K H locs lsA ⟨hP, hD, hS, hl, hlok, List.forall_mem_cons.mpr ⟨hval.2, fun w hw => hsok w (List.mem_cons_of_mem _ hw)⟩⟩
          · cases h
        · cases h
    · cases h
  · cases h

theorem en_snd_putfield (E : en_E z p s m args meth c R) (hK : va_K D classes (en_tys cA) s) {pc len a b j : Nat} {x : Int} {ls : en_l} {st : List en_v} {σ : en_m} {kk : Nat} (hc : en_chk z (pc, .putfield kk, len, a, b, j, x) = true) (S : en_S ad cA D A H0 (en_mL z) lsA ls st H locs σ) {y : en_x} (h : en_st (pc, .putfield kk, len, a, b, j, x) ls st σ = some y) (K : ∀ (H1 : Heap) (locs1 : List Loc) (lsA1 : Array Slot), en_S ad cA D A H0 (en_mL z) lsA1 y.2.1 y.2.2.1 H1 locs1 y.2.2.2 → W p l e R s m args below meth c H1 locs1 0 0 Q (F0 m y.1 lsA1 (y.2.2.1.map (en_rv ad)))) : W p l e R s m args below meth c H locs 0 0 Q (F0 m pc lsA (st.map (en_rv ad))) := by
  obtain ⟨hx, hb, hml, hown, hts, hr, hlk, hfr, hlo⟩ := E
  obtain ⟨hP, hD, hS, hl, hlok, hsok⟩ := S
  unfold en_chk at hc
  simp only [Bool.and_eq_true, decide_eq_true_eq] at hc
  unfold en_st at h
  dsimp only at h
  obtain ⟨hd, hlen, hw, hbN, hfin⟩ := hc
  have hlen := Nat.eq_of_beq_eq_true hlen
  subst hlen
  obtain ⟨q, hq, hbM, hfq⟩ := en_fN_of hbN
  rw [hfq] at hw hfin
  obtain ⟨hin, ty0, hty, hnm⟩ := en_cls hq
  split at h
  · rename_i v k o r
    split at h
    · rename_i cc fs hk
      cases hca : Nat.beq cc a with
      | false => rw [hca] at h; cases h
      | true =>
        rw [hca] at h
        have hca := Nat.eq_of_beq_eq_true hca
        subst hca
        dsimp only [cond_true] at h
        split at h
        · rename_i f hf
          split at h
          · rename_i σ' hv
            cases h
            have hqC : (k, o) ∈ en_C := hsok _ (List.mem_cons_of_mem _ List.mem_cons_self)
            obtain ⟨q0, hq0, hw0⟩ := en_W_at (ad := ad) (cA := cA) (σ := σ) hqC
            rw [en_K_cls (q := (k, o)) hk] at hw0
            obtain ⟨ho0, hfo⟩ := la_field hqC hk hf
            subst ho0
            have hbl : b < fs.length := (List.getElem?_eq_some_iff.mp hf).1
            have hfin2 : (q.2.1 b).2.2.2 = false := by simpa using hfin
            have fin : ∀ (rr : Nat) (g : Int → Int), σ' = sr σ rr g → la_sto rr = true → la_ow rr la_OW = some (k, b) → en_fv ad (sr σ rr g) f = en_rv ad v → (en_W ad cA σ).set q0 (ad k 0, .inr (cc, (fs.map (en_fv ad σ)).set b (en_rv ad v))) = en_W ad cA σ' := by
              intro rr g e h1 h2 h3
              rw [e]
              obtain ⟨g1, g2⟩ := en_o_fld (ad := ad) (cA := cA) (σ := σ) (g := g) h1 h2
              refine en_W_set (q := (k, 0)) hq0 ?_ g1
              rw [en_K_cls (q := (k, 0)) hk]
              congr 2
              apply List.ext_getElem?
              intro i
              rw [List.getElem?_set, List.length_map, List.getElem?_map, List.getElem?_map]
              by_cases hi : b = i
              · subst hi
                rw [if_pos rfl, if_pos hbl, hf]
                exact congrArg some h3
              · rw [if_neg hi]
                cases hfi : fs[i]? with
                | none => rfl
                | some f' => exact congrArg some (g2 cc fs hqC hk i f' hfi (fun e => hi e.symm))
            have hall : (en_W ad cA σ).set q0 (ad k 0, .inr (cc, (fs.map (en_fv ad σ)).set b (en_rv ad v))) = en_W ad cA σ' := by
              obtain ⟨tag, rr, t⟩ := f
              unfold la_fok at hfo
              unfold en_fp at hv
              split at hv
              · rename_i heq; cases heq
                cases hv
                simp only [Bool.and_eq_true, decide_eq_true_eq] at hfo
                exact fin _ _ rfl hfo.1 hfo.2 (by show Value.int (Int32.ofInt (sr σ _ _ _ 0)) = _; rw [sr_same]; rfl)
              · rename_i heq; cases heq
                split at hv
                · cases hv
                  simp only [Bool.and_eq_true, decide_eq_true_eq] at hfo
                  exact fin _ _ rfl hfo.1 hfo.2 (by show Value.int (Int32.ofInt (sr σ _ _ _ 0)) = _; rw [sr_same]; rfl)
                · cases hv
              · rename_i heq; cases heq
                cases hv
                simp only [Bool.and_eq_true, decide_eq_true_eq] at hfo
                exact fin _ _ rfl hfo.1 hfo.2 (by show Value.long (Int64.ofInt (sr σ _ _ _ 0)) = _; rw [sr_same]; rfl)
              · rename_i k' b' heq; cases heq
                simp only [Bool.and_eq_true, decide_eq_true_eq] at hfo
                cases hkt : Nat.beq k' t with
                | false => rw [hkt] at hv; cases hv
                | true =>
                  rw [hkt] at hv
                  have hkt := Nat.eq_of_beq_eq_true hkt
                  subst hkt
                  dsimp only [cond_true] at hv
                  split at hv
                  · cases hv
                    exact fin _ _ rfl hfo.1.1.1.1 hfo.1.1.1.2 (by show Value.ref (ad _ (sr σ _ _ _ 0)) = _; rw [sr_same]; rfl)
                  · cases hv
              · rename_i k' b' heq; cases heq
                simp only [Bool.and_eq_true, decide_eq_true_eq] at hfo
                have hvk : (k', b') ∈ en_C := hsok _ List.mem_cons_self
                have hb0 : ∀ t' : Nat, k' = t' → la_mem (t', 0) = true → la_obj t' = true → b' = 0 := by
                  intro t' e h1 h2
                  subst e
                  unfold la_obj at h2
                  cases hkk : en_K k' with
                  | inl x =>
                    have h := List.all_eq_true.mp la_ok _ hvk
                    unfold la_qok at h
                    dsimp only at h
                    rw [hkk] at h
                    simp only [Bool.and_eq_true, decide_eq_true_eq] at h
                    exact h.1
                  | inr x => rw [hkk] at h2; cases h2
                have hsh : la_obj t = true ∧ la_obj (t + 1) = true ∧ la_obj (t + 2) = true := la_5 hqC hk hf
                cases hkt : Nat.beq k' t with
                | true =>
                  rw [hkt] at hv
                  have hkt := Nat.eq_of_beq_eq_true hkt
                  dsimp only [cond_true] at hv
                  cases hv
                  have hb := hb0 t hkt hfo.1.1.2 hsh.1
                  exact fin _ _ rfl hfo.1.1.1.1 hfo.1.1.1.2 (by show Value.ref (ad (t + (sr σ _ _ _ 0).toNat) 0) = .ref (ad k' b'); rw [sr_same, hkt, hb]; rfl)
                | false =>
                  rw [hkt] at hv
                  dsimp only [cond_false] at hv
                  cases hkt1 : Nat.beq k' (t + 1) with
                  | true =>
                    rw [hkt1] at hv
                    have hkt1 := Nat.eq_of_beq_eq_true hkt1
                    dsimp only [cond_true] at hv
                    cases hv
                    have hb := hb0 _ hkt1 hfo.1.2 hsh.2.1
                    exact fin _ _ rfl hfo.1.1.1.1 hfo.1.1.1.2 (by show Value.ref (ad (t + (sr σ _ _ _ 0).toNat) 0) = .ref (ad k' b'); rw [sr_same, hkt1, hb]; rfl)
                  | false =>
                    rw [hkt1] at hv
                    dsimp only [cond_false] at hv
                    cases hkt2 : Nat.beq k' (t + 2) with
                    | true =>
                      rw [hkt2] at hv
                      have hkt2 := Nat.eq_of_beq_eq_true hkt2
                      dsimp only [cond_true] at hv
                      cases hv
                      have hb := hb0 _ hkt2 hfo.2 hsh.2.2
                      exact fin _ _ rfl hfo.1.1.1.1 hfo.1.1.1.2 (by show Value.ref (ad (t + (sr σ _ _ _ 0).toNat) 0) = .ref (ad k' b'); rw [sr_same, hkt2, hb]; rfl)
                    | false => rw [hkt2] at hv; cases hv
              · cases hv
            obtain ⟨ty, hdt, hnar, hfit⟩ : ∃ ty, parseFieldDescriptor (q.2.1 b).2.2.1 = some ty ∧ narrow ty (en_rv ad v) = en_rv ad v ∧ fits ty (en_rv ad v) = true := by
              have htd := la_td hqC hk hf hq
              obtain ⟨tag, rr, t⟩ := f
              unfold en_fp at hv
              split at hv
              · rename_i heq; cases heq; exact ⟨.int, htd, rfl, rfl⟩
              · rename_i heq; cases heq
                split at hv
                · rename_i h01
                  rcases h01 with rfl | rfl <;> exact ⟨.boolean, htd, rfl, rfl⟩
                · cases hv
              · rename_i heq; cases heq; exact ⟨.long, htd, rfl, rfl⟩
              · rename_i heq; cases heq
                obtain ⟨ty, h1⟩ := htd
                exact ⟨.array ty, h1, rfl, rfl⟩
              · rename_i heq; cases heq
                obtain ⟨ty, h1⟩ := htd
                exact ⟨.object ty, h1, rfl, rfl⟩
              · cases hv
            refine va_put (C := q.1) (T := q.2.1) (N := q.2.2) hx hb hts hin ty0 hty hnm hown hK hP hD hS q0 hw0 hq b hbM (hts _ (en_wd_in hw)) (fun _ h => h) hfin2 hdt hnar hfit (by rw [List.length_map]; exact hbl) hd (fun H1 locs1 hP1 hD1 hS1 => ?_)
            rw [hall] at hP1 hD1
            exact K H1 locs1 lsA ⟨hP1, hD1, hS1, hl, hlok, fun w hw => hsok w (List.mem_cons_of_mem _ (List.mem_cons_of_mem _ hw))⟩
          · cases h
        · cases h
    · cases h
  · cases h
theorem en_snd_tableswitch (E : en_E z p s m args meth c R) (hK : va_K D classes (en_tys cA) s) {pc len a b j : Nat} {x : Int} {ls : en_l} {st : List en_v} {σ : en_m} {d lo hi : Int} {offs : Array Int} (hc : en_chk z (pc, .tableswitch d lo hi offs, len, a, b, j, x) = true) (S : en_S ad cA D A H0 (en_mL z) lsA ls st H locs σ) {y : en_x} (h : en_st (pc, .tableswitch d lo hi offs, len, a, b, j, x) ls st σ = some y) (K : ∀ (H1 : Heap) (locs1 : List Loc) (lsA1 : Array Slot), en_S ad cA D A H0 (en_mL z) lsA1 y.2.1 y.2.2.1 H1 locs1 y.2.2.2 → W p l e R s m args below meth c H1 locs1 0 0 Q (F0 m y.1 lsA1 (y.2.2.1.map (en_rv ad)))) : W p l e R s m args below meth c H locs 0 0 Q (F0 m pc lsA (st.map (en_rv ad))) := by
  obtain ⟨hx, hb, hml, hown, hts, hr, hlk, hfr, hlo⟩ := E
  obtain ⟨hP, hD, hS, hl, hlok, hsok⟩ := S
  unfold en_chk at hc
  simp only [Bool.and_eq_true, decide_eq_true_eq] at hc
  unfold en_st at h
  dsimp only at h
  obtain ⟨hd, hdd, ho⟩ := hc
  split at h
  · rename_i v r
    have K0 := fun (y1 : Nat) (hy : y = (y1, ls, r, σ)) => (by rw [hy] at K; exact K H locs lsA ⟨hP, hD, hS, hl, hlok, fun w hw => hsok w (List.mem_cons_of_mem _ hw)⟩ : W p l e R s m args below meth c H locs 0 0 Q (F0 m y1 lsA (r.map (en_rv ad))))
    split at h
    · rename_i hcd
      have K1 := K0 _ (Option.some.inj h).symm
      exact lv_tableOut hx hb hd (by rw [nu_toInt]; exact hcd) (by rw [en_ofNat hdd]) K1
    · rename_i hcd
      split at h
      · rename_i off hof
        have K1 := K0 _ (Option.some.inj h).symm
        have h0 : 0 ≤ (pc : Int) + off := by
          have := List.all_eq_true.mp ho off (by rw [Array.getElem?_eq_some_iff] at hof; obtain ⟨hi, he⟩ := hof; rw [← he]; exact Array.getElem_mem_toList hi)
          exact of_decide_eq_true this
        exact lv_tableIn hx hb hd (by rw [nu_toInt]; omega) (by rw [nu_toInt]; omega) (by rw [nu_toInt]; exact hof) (by rw [en_ofNat h0]) K1
      · cases h
  · cases h
theorem en_snd_lookupswitch (E : en_E z p s m args meth c R) (hK : va_K D classes (en_tys cA) s) {pc len a b j : Nat} {x : Int} {ls : en_l} {st : List en_v} {σ : en_m} {d : Int} {ps : Array (Int × Int)} (hc : en_chk z (pc, .lookupswitch d ps, len, a, b, j, x) = true) (S : en_S ad cA D A H0 (en_mL z) lsA ls st H locs σ) {y : en_x} (h : en_st (pc, .lookupswitch d ps, len, a, b, j, x) ls st σ = some y) (K : ∀ (H1 : Heap) (locs1 : List Loc) (lsA1 : Array Slot), en_S ad cA D A H0 (en_mL z) lsA1 y.2.1 y.2.2.1 H1 locs1 y.2.2.2 → W p l e R s m args below meth c H1 locs1 0 0 Q (F0 m y.1 lsA1 (y.2.2.1.map (en_rv ad)))) : W p l e R s m args below meth c H locs 0 0 Q (F0 m pc lsA (st.map (en_rv ad))) := by
  obtain ⟨hx, hb, hml, hown, hts, hr, hlk, hfr, hlo⟩ := E
  obtain ⟨hP, hD, hS, hl, hlok, hsok⟩ := S
  unfold en_chk at hc
  simp only [Bool.and_eq_true, decide_eq_true_eq] at hc
  unfold en_st at h
  dsimp only at h
  obtain ⟨hd, hdd, ho, hz⟩ := hc
  split at h
  · rename_i v r
    have K0 := fun (y1 : Nat) (hy : y = (y1, ls, r, σ)) => (by rw [hy] at K; exact K H locs lsA ⟨hP, hD, hS, hl, hlok, fun w hw => hsok w (List.mem_cons_of_mem _ hw)⟩ : W p l e R s m args below meth c H locs 0 0 Q (F0 m y1 lsA (r.map (en_rv ad))))
    have K1 := K0 _ (Option.some.inj h).symm
    have h0 : 0 ≤ (pc : Int) + Op.lookupswitch.offset ps.toList d (w32 v) := by
      have key : ∀ (l : List (Int × Int)), (∀ o ∈ l, 0 ≤ (pc : Int) + o.2) → 0 ≤ (pc : Int) + Op.lookupswitch.offset l d (w32 v) := by
        intro l hl
        induction l with
        | nil => exact hdd
        | cons q r ih =>
          rw [Op.lookupswitch.offset_cons]
          split
          · exact hl q List.mem_cons_self
          · exact ih (fun o ho => hl o (List.mem_cons_of_mem _ ho))
      exact key _ (fun o hm => of_decide_eq_true (List.all_eq_true.mp ho o hm))
    exact lv_lookup hx hb hd hz rfl (by rw [nu_toInt, en_ofNat h0]) K1
  · cases h
end SN2
