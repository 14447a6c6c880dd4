/-! a method of the engine is a method of the machine -/
def en_mchk (a : Nat) : Bool := en_wd (en_cw a) (.code (en_y a) (en_B a) (en_mL a) (en_rt a)) && (bif en_is a then en_wd (en_iw a) (.static (en_y a)) else en_wd (en_iw a) (.instanceMethod (en_y a)) && en_wd (en_sw a) (.selects (en_y a).cls (en_y a) (en_y a)) && Nat.blt 0 (en_na a)) && en_wd (en_nw a) (.initialized (en_y a).cls) && decide ((en_y a).cls ≠ "java/lang/invoke/MethodHandle") && decide ((en_y a).cls ≠ "java/lang/invoke/VarHandle") && decide ((parseMethodDescriptor (en_y a).desc).map (fun d => d.parameters.length) = some (bif en_is a then en_na a else en_na a - 1)) && plainName (en_y a).cls
/-- all that is asked of the tables; decided in parts of their own -/
def en_OK : Prop := (∀ (z : Nat) (q : en_q), q ∈ en_T z → en_chk z q = true) ∧ ∀ z : Nat, z < 332 → en_mchk z = true
def en_A (ad : Nat → Int → Nat) (sz : Nat) : Nat → Prop := fun q => (∃ (k : Nat) (b : Int), (k, b) ∈ en_C ∧ q = ad k b) ∨ sz ≤ q
def en_X (A : Nat → Prop) (U : State) (H : Heap) : Prop := ∃ adK adV : Nat → Nat, vk_S 4 [5, 6, 2, 3] [[112, 114, 105, 109, 101], [108, 101, 116, 116, 101, 114], [116, 111], [108, 97, 119]] adK adV A U H ∧ (vk_R "WordAlgebra$Tokens" 130 "prime" (adK 0) U ∧ vk_R "WordAlgebra$Tokens" 136 "letter" (adK 1) U ∧ vk_R "WordAlgebra$Tokens" 138 "to" (adK 2) U ∧ vk_R "WordAlgebra$Tokens" 140 "law" (adK 3) U) ∧ va_Z "java/lang/String" "COMPACT_STRINGS" "Z" (.int 1) A U H ∧ va_Zq "jdk/internal/util/Preconditions" "SIOOBE_FORMATTER" "Ljava/util/function/BiFunction;" A U H
theorem en_X_kept {A : Nat → Prop} {U : State} {H H1 : Heap} (h : en_X A U H) (hq : ∀ a : Nat, a < H.size → ¬ A a → H1[a]? = H[a]?) : en_X A U H1 := by
  obtain ⟨k, v, h1, h2, h3, h4⟩ := h
  exact ⟨k, v, h1.kept hq, h2, h3.kept hq, h4.kept hq⟩
theorem en_X_narrow {A B : Nat → Prop} {U : State} {H : Heap} (h : en_X A U H) (hAB : ∀ q, B q → A q) : en_X B U H := by
  obtain ⟨k, v, h1, h2, h3, h4⟩ := h
  exact ⟨k, v, h1.narrow hAB, h2, h3.narrow hAB, h4.narrow hAB⟩
theorem en_X_warm {A : Nat → Prop} {s U : State} {H : Heap} (hW : s.WarmedH U.vm) (h : en_X A s H) : en_X A U H := by
  obtain ⟨k, v, h1, h2, h3, h4⟩ := h
  exact ⟨k, v, h1.moved hW.alike, ⟨h2.1.warm hW, h2.2.1.warm hW, h2.2.2.1.warm hW, h2.2.2.2.warm hW⟩, h3.moved hW.alike, h4.moved hW.alike⟩
theorem en_X_same {A : Nat → Prop} {u U : State} {H : Heap} (hv : U.vm = u.vm) (h : en_X A u H) : en_X A U H := by
  obtain ⟨k, v, h1, h2, h3, h4⟩ := h
  have ha : u.vm.Alike U.vm := by rw [hv]; exact Vm.Alike.refl u.vm
  exact ⟨k, v, h1.moved ha, ⟨h2.1.same hv, h2.2.1.same hv, h2.2.2.1.same hv, h2.2.2.2.same hv⟩, h3.moved ha, h4.moved ha⟩
def en_Pc (ad : Nat → Int → Nat) (cA : Nat → ClassId) (D : va_G) (as : List en_v) (σ : en_m) (sz : Nat) : Array Value → State → Prop := va_Pc (as.map (en_rv ad)) (fun U => U.heap.size = sz ∧ va_P D classes (en_W ad cA σ) U.heap ∧ va_K D classes (en_tys cA) U ∧ va_D (fun _ => True) (en_W ad cA σ) ∧ en_X (en_A ad sz) U U.heap)
def en_Qc (ad : Nat → Int → Nat) (cA : Nat → ClassId) (D : va_G) (r : Option en_v) (σ' : en_m) (sz : Nat) : Array Value → State → Outcome → State → Prop := fun _ st oc t => oc = .returned (r.map (en_rv ad)) ∧ va_P D classes (en_W ad cA σ') t.heap ∧ va_F (en_A ad sz) st t
def en_ws (z : Nat) : List Cond := .code (en_y z) (en_B z) (en_mL z) (en_rt z) :: en_tb
def en_rm (z : Nat) : Room := { frames := en_fr z, cells := 0, slots := 0, locals := en_lo z }
def en_WK (l : Launch) : Prop := ∀ (ad : Nat → Int → Nat) (cA : Nat → ClassId) (D : va_G) (σ : en_m) (sz : Nat) (v : Int), Met l (en_y z_X10_wordKind) (en_ws z_X10_wordKind) (en_rm z_X10_wordKind) (en_Pc ad cA D [.inr (.inl v)] σ sz) (en_Qc ad cA D (some (.inl (en_wk v))) σ sz) 0 0 (en_A ad sz)
theorem en_D_of {ad : Nat → Int → Nat} {cA : Nat → ClassId} {σ σ' : en_m} {B : Nat → Prop} (sz : Nat) (h : va_D B (en_W ad cA σ)) : va_D (en_A ad sz) (en_W ad cA σ') := by
  have key : ∀ (τ : en_m) (i : Nat) (q : Nat × va_E), (en_W ad cA τ)[i]? = some q → ∃ p : Nat × Int, en_C[i]? = some p ∧ q.1 = ad p.1 p.2 := by
    intro τ i q hi
    unfold en_W at hi
    rw [List.getElem?_map] at hi
    cases hp : en_C[i]? with
    | none => rw [hp] at hi; cases hi
    | some p => rw [hp] at hi; cases hi; exact ⟨p, rfl, rfl⟩
  have at' : ∀ (τ : en_m) (i : Nat) (p : Nat × Int), en_C[i]? = some p → (en_W ad cA τ)[i]? = some (ad p.1 p.2, en_en ad cA τ p) := by
    intro τ i p hp
    unfold en_W
    rw [List.getElem?_map, hp]
    rfl
  refine ⟨fun i j p q hi hj e => ?_, fun i q hi => ?_⟩
  · obtain ⟨p1, g1, g2⟩ := key _ i p hi
    obtain ⟨p2, g3, g4⟩ := key _ j q hj
    exact h.1 i j _ _ (at' σ i p1 g1) (at' σ j p2 g3) (g2.symm.trans (e.trans g4))
  · obtain ⟨p1, g1, g2⟩ := key _ i q hi
    exact Or.inl ⟨p1.1, p1.2, List.mem_of_getElem? g1, g2⟩
theorem en_at_mem : ∀ {c : en_c} {pc : Nat} {q : en_q}, en_at c pc = some q → q ∈ c ∧ q.1 = pc
  | [], _, _, h => by cases h
  | x :: r, pc, q, h => by
    have h' : (bif Nat.beq x.1 pc then some x else en_at r pc) = some q := h
    cases e : Nat.beq x.1 pc with
    | true =>
      rw [e] at h'
      cases h'
      exact ⟨List.mem_cons_self, Nat.eq_of_beq_eq_true e⟩
    | false =>
      rw [e] at h'
      obtain ⟨h1, h2⟩ := en_at_mem (c := r) h'
      exact ⟨List.mem_cons_of_mem _ h1, h2⟩
theorem en_pop_eq : ∀ {n : Nat} {st acc as r : List en_v}, en_pop n st acc = some (as, r) → ∃ l : List en_v, l.length = n ∧ st = l ++ r ∧ as = l.reverse ++ acc
  | 0, st, acc, as, r, h => by cases h; exact ⟨[], rfl, rfl, rfl⟩
  | _ + 1, [], _, _, _, h => by cases h
  | n + 1, v :: st, acc, as, r, h => by
    obtain ⟨l, h1, h2, h3⟩ := en_pop_eq (n := n) (acc := v :: acc) (show en_pop n st (v :: acc) = some (as, r) from h)
    exact ⟨v :: l, by rw [List.length_cons, h1], by rw [h2]; rfl, by rw [h3, List.reverse_cons, List.append_assoc]; rfl⟩
theorem en_rcv_eq {x : Int} {o : Option (List en_v × List en_v)} {as r : List en_v} (h : en_rcv x o = some (as, r)) : o = some (as, r) ∧ ∃ (k : Nat) (b : Int) (ci : Nat) (fs : List (Nat × Nat × Nat)) (as' : List en_v), as = .inr (.inr (k, b)) :: as' ∧ en_K k = .inl (ci, fs) ∧ ci = x.toNat := by
  unfold en_rcv at h
  split at h
  · rename_i k b as' r'
    split at h
    · rename_i ci fs hk
      cases hx : Nat.beq ci x.toNat with
      | false => rw [hx] at h; cases h
      | true =>
        rw [hx] at h
        cases h
        exact ⟨rfl, k, b, ci, fs, as', rfl, hk, Nat.eq_of_beq_eq_true hx⟩
    · cases h
  · cases h
/-- the locals at the entry -/
theorem en_args_get (ad : Nat → Int → Nat) : ∀ (as : List en_v) (i0 i : Nat) (v : en_v), en_get (en_args as) i = some v → v ∈ as ∧ (i0 + i, en_rv ad v) ∈ lv_args i0 (as.map (en_rv ad))
  | [], _, _, _, h => by cases h
  | .inl u :: r, i0, i, v, h => by
    cases i with
    | zero => cases h; exact ⟨List.mem_cons_self, List.mem_cons_self⟩
    | succ i =>
      obtain ⟨h1, h2⟩ := en_args_get ad r (i0 + 1) i v h
      refine ⟨List.mem_cons_of_mem _ h1, List.mem_cons_of_mem _ ?_⟩
      rw [show i0 + (i + 1) = i0 + 1 + i by omega]
      exact h2
  | .inr (.inr u) :: r, i0, i, v, h => by
    cases i with
    | zero => cases h; exact ⟨List.mem_cons_self, List.mem_cons_self⟩
    | succ i =>
      obtain ⟨h1, h2⟩ := en_args_get ad r (i0 + 1) i v h
      refine ⟨List.mem_cons_of_mem _ h1, List.mem_cons_of_mem _ ?_⟩
      rw [show i0 + (i + 1) = i0 + 1 + i by omega]
      exact h2
  | .inr (.inl u) :: r, i0, i, v, h => by
    match i, h with
    | 0, h => cases h; exact ⟨List.mem_cons_self, List.mem_cons_self⟩
    | 1, h => cases h
    | i + 2, h =>
      obtain ⟨h1, h2⟩ := en_args_get ad r (i0 + 2) i v h
      refine ⟨List.mem_cons_of_mem _ h1, List.mem_cons_of_mem _ ?_⟩
      rw [show i0 + (i + 2) = i0 + 2 + i by omega]
      exact h2
theorem en_pad_get : ∀ (n : Nat) (l : en_l) (i : Nat) (v : en_v), en_get (en_pad n l) i = some v → en_get l i = some v
  | 0, _, _, _, h => by cases h
  | n + 1, [], i, v, h => by
    cases i with
    | zero => cases h
    | succ i => cases en_pad_get n [] i v h
  | n + 1, x :: r, i, v, h => by
    cases i with
    | zero => exact h
    | succ i => exact en_pad_get n r i v h
theorem en_sl_len (ad : Nat → Int → Nat) : ∀ as : List en_v, (lg_sl (as.map (en_rv ad))).length = en_sum as
  | [] => rfl
  | v :: r => by
    have ih := en_sl_len ad r
    have hcat := en_cat ad v
    show ((if (en_rv ad v).category = 2 then [Slot.val (en_rv ad v), .second] else [.val (en_rv ad v)]) ++ lg_sl (r.map (en_rv ad))).length = en_w1 v + en_sum r
    rw [List.length_append, ih, hcat]
    match v with
    | .inl _ => rfl
    | .inr (.inl _) => rfl
    | .inr (.inr _) => rfl
theorem en_lh_ent {ad : Nat → Int → Nat} {z : Nat} {as : List en_v} (h : en_sum as ≤ en_mL z) : en_lh ad ((lg_sl (as.map (en_rv ad)) ++ List.replicate (en_mL z - (lg_sl (as.map (en_rv ad))).length) Slot.unset).toArray) (en_mL z) (en_ent z as) := by
  have hv := lv_entry (as.map (en_rv ad)) (n := en_mL z) (by rw [en_sl_len]; exact h)
  refine ⟨hv.1, hv.2.1, fun i v hi => ?_⟩
  obtain ⟨-, h2⟩ := en_args_get ad as 0 i v (en_pad_get _ _ i v hi)
  rw [Nat.zero_add] at h2
  exact hv.2.2 _ h2
theorem en_lok_ent {z : Nat} {as : List en_v} (h : ∀ v ∈ as, en_ok v) : en_lok (en_ent z as) := fun i v hi => h v (en_args_get (fun _ _ => 0) as 0 i v (en_pad_get _ _ i v hi)).1
section CALLW
variable {p : Program} {l : Launch} {e : Env} {R : Room} {s : State} {m : MethodId} {args : Array Value} {below : List Frame} {meth : Method} {c : Code} {H : Heap} {locs : List Loc} {cells slots : Nat} {Q : State → Prop} {pc : Nat} {ls : Array Slot} {rest st0 : List Value} {a : Array Value} {A0 : Nat → Prop} {H0 : Heap} {free : Addr → Prop} {ad : Nat → Int → Nat} {cA : Nat → ClassId} {D : va_G} {r : Option en_v} {σ1 : en_m} {sz : Nat}
theorem en_callW (hr : va_Run p l e R s m args below meth c H locs cells slots 0 0 (F0 m pc ls st0) rest (en_Qc ad cA D r σ1 sz a) free) (hS : va_S A0 H0 H locs) (hA : ∀ q, q < H.size → en_A ad sz q → A0 q) (hf : ∀ q, free q → A0 q)
    (kk : ∀ (H1 : Heap) (locs1 : List Loc), va_P D classes (en_W ad cA σ1) H1 → va_S A0 H0 H1 locs1 → W p l e R s m args below meth c H1 locs1 cells slots Q (F0 m (pc + 3) ls ((r.map (en_rv ad)).toList ++ rest))) : W p l e R s m args below meth c H locs cells slots Q (F0 m pc ls st0) := by
  intro T hT X
  obtain ⟨v, st₀, t, T', L, h0, X', hL, e1, e2, ⟨hv, hp, hz, hk⟩, st⟩ := hr T hT X
  cases hv
  rw [h0] at hz hk
  obtain ⟨t2, a1, b1⟩ := kk T'.heap (locs ++ L) (by rw [e1]; exact hp)
    ⟨Nat.le_trans hS.1 (by rw [e1]; exact hz), fun q h1 h2 => by rw [e1, hk q (Nat.lt_of_lt_of_le h1 hS.1) (fun z => h2 (hA q (Nat.lt_of_lt_of_le h1 hS.1) z))]; exact hS.2.1 q h1 h2, fun q hq => by
      rcases List.mem_append.mp hq with h | h
      · exact hS.2.2 q h
      · exact hf _ (hL q h)⟩ T' rfl X'
  exact ⟨t2, st t2 a1, b1⟩
end CALLW
theorem en_fb (ad : Nat → Int → Nat) (cA : Nat → ClassId) (D : va_G) (as : List en_v) (σ : en_m) (sz : Nat) : FrameBlind (en_Pc ad cA D as σ sz) := by
  intro a U g mk h
  obtain ⟨h0, h1, h2, h3, h4, h5⟩ := h
  exact ⟨h0, h1, h2, va_K.moved (u := U) (U := U.calling g mk a) (Vm.Alike.refl U.vm) h3, h4, en_X_same (u := U) (U := U.calling g mk a) rfl h5⟩
