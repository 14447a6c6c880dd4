/-! wordKind at the machine, and the methods of String that it reaches: none of them writes -/
theorem dw_sl_0 : decode prog_16_method_54_code 0 = .ok (.aload_n 0, 1) := by decide +kernel
theorem dw_sl_1 : decode prog_16_method_54_code 1 = .ok (.getfield 9, 3) := by decide +kernel
theorem dw_sl_4 : decode prog_16_method_54_code 4 = .ok (.arraylength, 1) := by decide +kernel
theorem dw_sl_5 : decode prog_16_method_54_code 5 = .ok (.aload_n 0, 1) := by decide +kernel
theorem dw_sl_6 : decode prog_16_method_54_code 6 = .ok (.invokevirtual 335, 3) := by decide +kernel
theorem dw_sl_9 : decode prog_16_method_54_code 9 = .ok (.ishr, 1) := by decide +kernel
theorem dw_sl_10 : decode prog_16_method_54_code 10 = .ok (.ireturn, 1) := by decide +kernel
theorem dw_co_0 : decode prog_16_method_152_code 0 = .ok (.getstatic 38, 3) := by decide +kernel
theorem dw_co_3 : decode prog_16_method_152_code 3 = .ok (.ifCond .eq 10, 3) := by decide +kernel
theorem dw_co_6 : decode prog_16_method_152_code 6 = .ok (.aload_n 0, 1) := by decide +kernel
theorem dw_co_7 : decode prog_16_method_152_code 7 = .ok (.getfield 15, 3) := by decide +kernel
theorem dw_co_10 : decode prog_16_method_152_code 10 = .ok (.goto 4, 3) := by decide +kernel
theorem dw_co_14 : decode prog_16_method_152_code 14 = .ok (.ireturn, 1) := by decide +kernel
theorem dw_la_0 : decode prog_16_method_154_code 0 = .ok (.getstatic 38, 3) := by decide +kernel
theorem dw_la_3 : decode prog_16_method_154_code 3 = .ok (.ifCond .eq 14, 3) := by decide +kernel
theorem dw_la_6 : decode prog_16_method_154_code 6 = .ok (.aload_n 0, 1) := by decide +kernel
theorem dw_la_7 : decode prog_16_method_154_code 7 = .ok (.getfield 15, 3) := by decide +kernel
theorem dw_la_10 : decode prog_16_method_154_code 10 = .ok (.ifCond .ne 7, 3) := by decide +kernel
theorem dw_la_13 : decode prog_16_method_154_code 13 = .ok (.iconst 1, 1) := by decide +kernel
theorem dw_la_14 : decode prog_16_method_154_code 14 = .ok (.goto 4, 3) := by decide +kernel
theorem dw_la_18 : decode prog_16_method_154_code 18 = .ok (.ireturn, 1) := by decide +kernel
theorem dw_ca_0 : decode prog_16_method_56_code 0 = .ok (.aload_n 0, 1) := by decide +kernel
theorem dw_ca_1 : decode prog_16_method_56_code 1 = .ok (.invokevirtual 492, 3) := by decide +kernel
theorem dw_ca_4 : decode prog_16_method_56_code 4 = .ok (.ifCond .eq 12, 3) := by decide +kernel
theorem dw_ca_7 : decode prog_16_method_56_code 7 = .ok (.aload_n 0, 1) := by decide +kernel
theorem dw_ca_8 : decode prog_16_method_56_code 8 = .ok (.getfield 9, 3) := by decide +kernel
theorem dw_ca_11 : decode prog_16_method_56_code 11 = .ok (.iload_n 1, 1) := by decide +kernel
theorem dw_ca_12 : decode prog_16_method_56_code 12 = .ok (.invokestatic 495, 3) := by decide +kernel
theorem dw_ca_15 : decode prog_16_method_56_code 15 = .ok (.ireturn, 1) := by decide +kernel
theorem dw_lc_0 : decode prog_17_method_2_code 0 = .ok (.iload_n 1, 1) := by decide +kernel
theorem dw_lc_1 : decode prog_17_method_2_code 1 = .ok (.aload_n 0, 1) := by decide +kernel
theorem dw_lc_2 : decode prog_17_method_2_code 2 = .ok (.arraylength, 1) := by decide +kernel
theorem dw_lc_3 : decode prog_17_method_2_code 3 = .ok (.invokestatic 9, 3) := by decide +kernel
theorem dw_lc_6 : decode prog_17_method_2_code 6 = .ok (.aload_n 0, 1) := by decide +kernel
theorem dw_lc_7 : decode prog_17_method_2_code 7 = .ok (.iload_n 1, 1) := by decide +kernel
theorem dw_lc_8 : decode prog_17_method_2_code 8 = .ok (.baload, 1) := by decide +kernel
theorem dw_lc_9 : decode prog_17_method_2_code 9 = .ok (.sipush 255, 3) := by decide +kernel
theorem dw_lc_12 : decode prog_17_method_2_code 12 = .ok (.iand, 1) := by decide +kernel
theorem dw_lc_13 : decode prog_17_method_2_code 13 = .ok (.i2c, 1) := by decide +kernel
theorem dw_lc_14 : decode prog_17_method_2_code 14 = .ok (.ireturn, 1) := by decide +kernel
theorem dw_ci_0 : decode prog_16_method_155_code 0 = .ok (.iload_n 0, 1) := by decide +kernel
theorem dw_ci_1 : decode prog_16_method_155_code 1 = .ok (.iload_n 1, 1) := by decide +kernel
theorem dw_ci_2 : decode prog_16_method_155_code 2 = .ok (.getstatic 1053, 3) := by decide +kernel
theorem dw_ci_5 : decode prog_16_method_155_code 5 = .ok (.invokestatic 1059, 3) := by decide +kernel
theorem dw_ci_8 : decode prog_16_method_155_code 8 = .ok (.pop, 1) := by decide +kernel
theorem dw_ci_9 : decode prog_16_method_155_code 9 = .ok (.return_, 1) := by decide +kernel
theorem dw_pi_0 : decode prog_21_method_11_code 0 = .ok (.iload_n 0, 1) := by decide +kernel
theorem dw_pi_1 : decode prog_21_method_11_code 1 = .ok (.ifCond .lt 8, 3) := by decide +kernel
theorem dw_pi_4 : decode prog_21_method_11_code 4 = .ok (.iload_n 0, 1) := by decide +kernel
theorem dw_pi_5 : decode prog_21_method_11_code 5 = .ok (.iload_n 1, 1) := by decide +kernel
theorem dw_pi_6 : decode prog_21_method_11_code 6 = .ok (.if_icmp .lt 10, 3) := by decide +kernel
theorem dw_pi_16 : decode prog_21_method_11_code 16 = .ok (.iload_n 0, 1) := by decide +kernel
theorem dw_pi_17 : decode prog_21_method_11_code 17 = .ok (.ireturn, 1) := by decide +kernel
theorem dw_pb_0 : decode prog_12_method_19_code 0 = .ok (.lload_n 0, 1) := by decide +kernel
theorem dw_pb_1 : decode prog_12_method_19_code 1 = .ok (.iconst 5, 1) := by decide +kernel
theorem dw_pb_2 : decode prog_12_method_19_code 2 = .ok (.lshl, 1) := by decide +kernel
theorem dw_pb_3 : decode prog_12_method_19_code 3 = .ok (.iload_n 2, 1) := by decide +kernel
theorem dw_pb_4 : decode prog_12_method_19_code 4 = .ok (.bipush 97, 2) := by decide +kernel
theorem dw_pb_6 : decode prog_12_method_19_code 6 = .ok (.isub, 1) := by decide +kernel
theorem dw_pb_7 : decode prog_12_method_19_code 7 = .ok (.iconst 1, 1) := by decide +kernel
theorem dw_pb_8 : decode prog_12_method_19_code 8 = .ok (.iadd, 1) := by decide +kernel
theorem dw_pb_9 : decode prog_12_method_19_code 9 = .ok (.i2l, 1) := by decide +kernel
theorem dw_pb_10 : decode prog_12_method_19_code 10 = .ok (.ladd, 1) := by decide +kernel
theorem dw_pb_11 : decode prog_12_method_19_code 11 = .ok (.lreturn, 1) := by decide +kernel
theorem dw_pw_0 : decode prog_12_method_20_code 0 = .ok (.lconst 0, 1) := by decide +kernel
theorem dw_pw_1 : decode prog_12_method_20_code 1 = .ok (.lstore_n 1, 1) := by decide +kernel
theorem dw_pw_2 : decode prog_12_method_20_code 2 = .ok (.iconst 0, 1) := by decide +kernel
theorem dw_pw_3 : decode prog_12_method_20_code 3 = .ok (.istore_n 3, 1) := by decide +kernel
theorem dw_pw_4 : decode prog_12_method_20_code 4 = .ok (.iload_n 3, 1) := by decide +kernel
theorem dw_pw_5 : decode prog_12_method_20_code 5 = .ok (.aload_n 0, 1) := by decide +kernel
theorem dw_pw_6 : decode prog_12_method_20_code 6 = .ok (.invokevirtual 121, 3) := by decide +kernel
theorem dw_pw_9 : decode prog_12_method_20_code 9 = .ok (.if_icmp .ge 19, 3) := by decide +kernel
theorem dw_pw_12 : decode prog_12_method_20_code 12 = .ok (.lload_n 1, 1) := by decide +kernel
theorem dw_pw_13 : decode prog_12_method_20_code 13 = .ok (.aload_n 0, 1) := by decide +kernel
theorem dw_pw_14 : decode prog_12_method_20_code 14 = .ok (.iload_n 3, 1) := by decide +kernel
theorem dw_pw_15 : decode prog_12_method_20_code 15 = .ok (.invokevirtual 126, 3) := by decide +kernel
theorem dw_pw_18 : decode prog_12_method_20_code 18 = .ok (.invokestatic 113, 3) := by decide +kernel
theorem dw_pw_21 : decode prog_12_method_20_code 21 = .ok (.lstore_n 1, 1) := by decide +kernel
theorem dw_pw_22 : decode prog_12_method_20_code 22 = .ok (.iinc 3 1, 3) := by decide +kernel
theorem dw_pw_25 : decode prog_12_method_20_code 25 = .ok (.goto (-21), 3) := by decide +kernel
theorem dw_pw_28 : decode prog_12_method_20_code 28 = .ok (.lload_n 1, 1) := by decide +kernel
theorem dw_pw_29 : decode prog_12_method_20_code 29 = .ok (.lreturn, 1) := by decide +kernel
theorem dw_wk_0 : decode prog_12_method_21_code 0 = .ok (.lload_n 0, 1) := by decide +kernel
theorem dw_wk_1 : decode prog_12_method_21_code 1 = .ok (.ldc 130, 2) := by decide +kernel
theorem dw_wk_3 : decode prog_12_method_21_code 3 = .ok (.invokestatic 132, 3) := by decide +kernel
theorem dw_wk_6 : decode prog_12_method_21_code 6 = .ok (.lcmp, 1) := by decide +kernel
theorem dw_wk_7 : decode prog_12_method_21_code 7 = .ok (.ifCond .ne 5, 3) := by decide +kernel
theorem dw_wk_10 : decode prog_12_method_21_code 10 = .ok (.iconst 1, 1) := by decide +kernel
theorem dw_wk_11 : decode prog_12_method_21_code 11 = .ok (.ireturn, 1) := by decide +kernel
theorem dw_wk_12 : decode prog_12_method_21_code 12 = .ok (.lload_n 0, 1) := by decide +kernel
theorem dw_wk_13 : decode prog_12_method_21_code 13 = .ok (.ldc 136, 2) := by decide +kernel
theorem dw_wk_15 : decode prog_12_method_21_code 15 = .ok (.invokestatic 132, 3) := by decide +kernel
theorem dw_wk_18 : decode prog_12_method_21_code 18 = .ok (.lcmp, 1) := by decide +kernel
theorem dw_wk_19 : decode prog_12_method_21_code 19 = .ok (.ifCond .ne 5, 3) := by decide +kernel
theorem dw_wk_22 : decode prog_12_method_21_code 22 = .ok (.iconst 2, 1) := by decide +kernel
theorem dw_wk_23 : decode prog_12_method_21_code 23 = .ok (.ireturn, 1) := by decide +kernel
theorem dw_wk_24 : decode prog_12_method_21_code 24 = .ok (.lload_n 0, 1) := by decide +kernel
theorem dw_wk_25 : decode prog_12_method_21_code 25 = .ok (.ldc 138, 2) := by decide +kernel
theorem dw_wk_27 : decode prog_12_method_21_code 27 = .ok (.invokestatic 132, 3) := by decide +kernel
theorem dw_wk_30 : decode prog_12_method_21_code 30 = .ok (.lcmp, 1) := by decide +kernel
theorem dw_wk_31 : decode prog_12_method_21_code 31 = .ok (.ifCond .ne 5, 3) := by decide +kernel
theorem dw_wk_34 : decode prog_12_method_21_code 34 = .ok (.iconst 3, 1) := by decide +kernel
theorem dw_wk_35 : decode prog_12_method_21_code 35 = .ok (.ireturn, 1) := by decide +kernel
theorem dw_wk_36 : decode prog_12_method_21_code 36 = .ok (.lload_n 0, 1) := by decide +kernel
theorem dw_wk_37 : decode prog_12_method_21_code 37 = .ok (.ldc 140, 2) := by decide +kernel
theorem dw_wk_39 : decode prog_12_method_21_code 39 = .ok (.invokestatic 132, 3) := by decide +kernel
theorem dw_wk_42 : decode prog_12_method_21_code 42 = .ok (.lcmp, 1) := by decide +kernel
theorem dw_wk_43 : decode prog_12_method_21_code 43 = .ok (.ifCond .ne 7, 3) := by decide +kernel
theorem dw_wk_46 : decode prog_12_method_21_code 46 = .ok (.iconst 4, 1) := by decide +kernel
theorem dw_wk_47 : decode prog_12_method_21_code 47 = .ok (.goto 4, 3) := by decide +kernel
theorem dw_wk_50 : decode prog_12_method_21_code 50 = .ok (.iconst 5, 1) := by decide +kernel
theorem dw_wk_51 : decode prog_12_method_21_code 51 = .ok (.ireturn, 1) := by decide +kernel
def pu_Q (v : Option Value) : Array Value → State → Outcome → State → Prop := fun _ st oc t => oc = .returned v ∧ t.heap = st.heap
def pu_N : Addr → Prop := fun _ => False
def pu_X (adK adV : Nat → Nat) (U : State) (H : Heap) : Prop := vk_S 4 [5, 6, 2, 3] [[112, 114, 105, 109, 101], [108, 101, 116, 116, 101, 114], [116, 111], [108, 97, 119]] adK adV (fun _ => False) U H ∧ (vk_R "WordAlgebra$Tokens" 130 "prime" (adK 0) U ∧ vk_R "WordAlgebra$Tokens" 136 "letter" (adK 1) U ∧ vk_R "WordAlgebra$Tokens" 138 "to" (adK 2) U ∧ vk_R "WordAlgebra$Tokens" 140 "law" (adK 3) U) ∧ va_Z "java/lang/String" "COMPACT_STRINGS" "Z" (.int 1) (fun _ => False) U H ∧ va_Zq "jdk/internal/util/Preconditions" "SIOOBE_FORMATTER" "Ljava/util/function/BiFunction;" (fun _ => False) U H
theorem pu_of {A : Nat → Prop} {U : State} {H : Heap} (h : en_X A U H) : ∃ adK adV, pu_X adK adV U H := by
  obtain ⟨k, v, h1, h2, h3, h4⟩ := en_X_narrow (B := fun _ => False) h (fun _ hq => hq.elim)
  exact ⟨k, v, h1, h2, h3, h4⟩
theorem pu_warm {k v : Nat → Nat} {s U : State} {H : Heap} (hW : s.WarmedH U.vm) (h : pu_X k v s H) : pu_X k v U H := by
  obtain ⟨h1, h2, h3, h4⟩ := h
  exact ⟨h1.moved hW.alike, ⟨h2.1.warm hW, h2.2.1.warm hW, h2.2.2.1.warm hW, h2.2.2.2.warm hW⟩, h3.moved hW.alike, h4.moved hW.alike⟩
theorem pu_same {k v : Nat → Nat} {u U : State} {H : Heap} (hv : U.vm = u.vm) (h : pu_X k v u H) : pu_X k v U H := by
  obtain ⟨h1, h2, h3, h4⟩ := h
  have ha : u.vm.Alike U.vm := by rw [hv]; exact Vm.Alike.refl u.vm
  exact ⟨h1.moved ha, ⟨h2.1.same hv, h2.2.1.same hv, h2.2.2.1.same hv, h2.2.2.2.same hv⟩, h3.moved ha, h4.moved ha⟩
def pu_P (as : List Value) (k v : Nat → Nat) : Array Value → State → Prop := va_Pc as (fun U => pu_X k v U U.heap)
theorem pu_fb (as : List Value) (k v : Nat → Nat) : FrameBlind (pu_P as k v) := by
  intro a U g mk h
  exact ⟨h.1, pu_same (u := U) (U := U.calling g mk a) rfl h.2⟩
theorem pu_good {y : MethodName} {B : ByteArray} {mL : Nat} {rt : Option FieldType} (h : Cond.code y B mL rt ∈ en_tb) : GoodIn en_tb (.code y B mL rt :: en_tb) := by
  have key : ∀ w ∈ en_tb, w ∈ en_tb ∧ ((w.onTables && w.keeps) = true ∨ ∃ ty, w = .arrayClass ty) := fun w hw => ⟨hw, good_of_word (List.mem_filter.mp hw).2⟩
  intro w hw
  rcases List.mem_cons.mp hw with e | hw
  · rw [e]; exact key _ h
  · exact key w hw
def pu_M (l : Launch) (y : MethodName) (B : ByteArray) (mL : Nat) (rt : Option FieldType) (fr lo : Nat) (as : List Value) (k v : Nat → Nat) (r : Option Value) : Prop := Met l y (.code y B mL rt :: en_tb) { frames := fr, cells := 0, slots := 0, locals := lo } (pu_P as k v) (pu_Q r) 0 0 pu_N
theorem pu_ofW {l : Launch} {y : MethodName} {B : ByteArray} {mL : Nat} {rt : Option FieldType} {fr lo : Nat} {as : List Value} {k v : Nat → Nat} {r : Option Value} (hy : plainName y.cls = true) (hsz : (lg_sl as).length ≤ mL)
    (body : ∀ (p : Program) (e : Env) (s : State) (m : MethodId) (below : List Frame) (meth : Method) (c : Code) (ls : Array Slot), p.tables.exec = Jvm.exec → c.code = B → c.maxLocals = mL → meth.sig.returnType = rt → meth.locks = false → s.vm.findClass y.cls = some m.cls → (∀ w ∈ en_tb, w.before as.toArray s = true) → pu_X k v s s.heap → lv_has ls mL (lv_args 0 as) →
      W p l e { frames := fr, cells := 0, slots := 0, locals := lo } s m as.toArray below meth c s.heap [] 0 0 (MQ below (pu_Q r) as.toArray s 0 0 pu_N) (F0 m 0 ls [])) : pu_M l y B mL rt fr lo as k v r := by
  refine Met.ofW (cc := B) (maxL := mL) (ret := rt) hy rfl ?_
  intro p e s m args below meth c s₁ BB hml hv
  obtain ⟨rfl, hX⟩ := hv
  have hts := atoms_spec (ws := .code y B mL rt :: en_tb) BB.pre
  have hl := lv_entry as (n := mL) hsz
  rw [lg_entry_eq]
  exact body p e s m below meth c _ BB.exec BB.bytes hml BB.returns BB.notSynchronized (findClass_of_methodNamed BB.named) (fun w hw => hts w (List.mem_cons_of_mem _ hw)) hX hl
section PUG
variable {p : Program} {l : Launch} {e : Env} {R : Room} {s : State} {m : MethodId} {args : Array Value} {below : List Frame} {meth : Method} {c : Code} {Q : State → Prop} {pc : Nat} {ls : Array Slot} {rest st0 : List Value} {a : Array Value} {v : Option Value} {cc : ByteArray}
theorem pu_go {H : Heap} {locs : List Loc} {cells slots : Nat} (hr : va_Run p l e R s m args below meth c H locs cells slots 0 0 (F0 m pc ls st0) rest (pu_Q v a) pu_N) (kk : W p l e R s m args below meth c H locs cells slots Q (F0 m (pc + 3) ls (v.toList ++ rest))) : W p l e R s m args below meth c H locs cells slots Q (F0 m pc ls st0) := by
  intro T hT X
  obtain ⟨v', st₀, t, T', L, h0, X', hL, e1, e2, ⟨hv, hh⟩, st⟩ := hr T hT X
  cases hv
  have hL0 : L = [] := List.eq_nil_iff_forall_not_mem.mpr (fun q hq => hL q hq)
  subst hL0
  rw [List.append_nil] at X'
  obtain ⟨t2, a1, b1⟩ := kk T' (by rw [e1, hh, h0]) X'
  exact ⟨t2, st t2 a1, b1⟩
theorem pu_callS {y : MethodName} {B : ByteArray} {mL nL idx fr lo n : Nat} {rt : Option FieldType} {As : List Value} {k w : Nat → Nat} {own : String} (hx : p.tables.exec = Jvm.exec) (hb : c.code = cc) (hml : c.maxLocals = nL) (hown : s.vm.findClass own = some m.cls) (ht : ∀ w ∈ en_tb, w.before args s = true) (hM : pu_M l y B mL rt fr lo As k w v) (hX : pu_X k w s s.heap)
    (w1 : Cond.code y B mL rt ∈ en_tb) (w2 : Cond.initialized y.cls ∈ en_tb) (w3 : Cond.methodLink own idx y ∈ en_tb) (w4 : Cond.static y ∈ en_tb) (hn : As.length = n) (hd : y.cls ≠ "java/lang/invoke/MethodHandle" ∧ y.cls ≠ "java/lang/invoke/VarHandle" ∧ (parseMethodDescriptor y.desc).map (fun d => d.parameters.length) = some n) (hroom : fr + 1 ≤ R.frames ∧ 8 + (mL + 11) + lo ≤ R.locals) (hls : ls.size = nL) (hst : st0 = As.reverse ++ rest) (hcat : (rest.map fun v => v.category).sum ≤ 8) (hdg : decode cc pc = .ok (.invokestatic idx, 3))
    (kk : W p l e R s m args below meth c s.heap [] 0 0 Q (F0 m (pc + 3) ls (v.toList ++ rest))) : W p l e R s m args below meth c s.heap [] 0 0 Q (F0 m pc ls st0) := by
  have cw : CallB R s args own idx y B mL rt (.code y B mL rt :: en_tb) ({ frames := fr, cells := 0, slots := 0, locals := lo } : Room) 0 0 n ∧ (Cond.static y).before args s = true := ⟨callB_of n ht (pu_good w1) rfl rfl rfl (ht _ w2) (ht _ w3) hd hroom, ht _ w4⟩
  exact pu_go (va_runS (Ts := en_tb) ⟨hx, hb, hml, hown, ht⟩ hM cw ⟨pu_fb As k w, fun U hU hW => ⟨rfl, by show pu_X k w U U.heap; rw [hU]; exact pu_warm hW hX⟩⟩ rfl hn hls hst (lv_room hcat) hdg ⟨Nat.zero_le _, Nat.zero_le _⟩) kk
theorem pu_callV {y : MethodName} {B : ByteArray} {mL nL idx fr lo i n : Nat} {rt : Option FieldType} {As : List Value} {k w : Nat → Nat} {own : String} (hx : p.tables.exec = Jvm.exec) (hb : c.code = cc) (hml : c.maxLocals = nL) (hown : s.vm.findClass own = some m.cls) (ht : ∀ w ∈ en_tb, w.before args s = true) (hi : i < 4) (hM : pu_M l y B mL rt fr lo (.ref (k i) :: As) k w v) (hX : pu_X k w s s.heap) (hy : y.cls = "java/lang/String")
    (w1 : Cond.code y B mL rt ∈ en_tb) (w2 : Cond.initialized y.cls ∈ en_tb) (w3 : Cond.methodLink own idx y ∈ en_tb) (w4 : Cond.instanceMethod y ∈ en_tb) (w5 : Cond.selects y.cls y y ∈ en_tb) (hn : As.length = n) (hd : y.cls ≠ "java/lang/invoke/MethodHandle" ∧ y.cls ≠ "java/lang/invoke/VarHandle" ∧ (parseMethodDescriptor y.desc).map (fun d => d.parameters.length) = some n) (hroom : fr + 1 ≤ R.frames ∧ 8 + (mL + 11) + lo ≤ R.locals) (hls : ls.size = nL) (hst : st0 = As.reverse ++ .ref (k i) :: rest) (hcat : (rest.map fun v => v.category).sum ≤ 8) (hdg : decode cc pc = .ok (.invokevirtual idx, 3))
    (kk : W p l e R s m args below meth c s.heap [] 0 0 Q (F0 m (pc + 3) ls (v.toList ++ rest))) : W p l e R s m args below meth c s.heap [] 0 0 Q (F0 m pc ls st0) := by
  have cw : CallW R s args own y.cls idx y B mL rt (.code y B mL rt :: en_tb) ({ frames := fr, cells := 0, slots := 0, locals := lo } : Room) 0 0 n := ⟨callB_of n ht (pu_good w1) rfl rfl rfl (ht _ w2) (ht _ w3) hd hroom, ht _ w4, ht _ w5⟩
  have hrcv := vk_recv hX.1 hi (va_S.rf (A := fun _ => False) (H0 := s.heap))
  rw [← hy] at hrcv
  exact pu_go (va_runV (Ts := en_tb) ⟨hx, hb, hml, hown, ht⟩ hM cw ⟨pu_fb _ k w, hrcv, fun U hU hW => ⟨rfl, by show pu_X k w U U.heap; rw [hU]; exact pu_warm hW hX⟩⟩ rfl hn hls hst (lv_room hcat) hdg ⟨Nat.zero_le _, Nat.zero_le _⟩) kk
end PUG
abbrev yw_pi : MethodName := ⟨"jdk/internal/util/Preconditions", "checkIndex", "(IILjava/util/function/BiFunction;)I"⟩
abbrev yw_ci : MethodName := ⟨"java/lang/String", "checkIndex", "(II)V"⟩
abbrev yw_lc : MethodName := ⟨"java/lang/StringLatin1", "charAt", "([BI)C"⟩
abbrev yw_la : MethodName := ⟨"java/lang/String", "isLatin1", "()Z"⟩
abbrev yw_co : MethodName := ⟨"java/lang/String", "coder", "()B"⟩
abbrev yw_ca : MethodName := ⟨"java/lang/String", "charAt", "(I)C"⟩
abbrev yw_sl : MethodName := ⟨"java/lang/String", "length", "()I"⟩
abbrev yw_pb : MethodName := ⟨"WordAlgebra$Tokens", "packBehind", "(JI)J"⟩
abbrev yw_pw : MethodName := ⟨"WordAlgebra$Tokens", "packWord", "(Ljava/lang/String;)J"⟩
def pu_n (i : Nat) : Nat := ([5, 6, 2, 3] : List Nat).getD i 0
def pu_c (i j : Nat) : Int32 := (([[112, 114, 105, 109, 101], [108, 101, 116, 116, 101, 114], [116, 111], [108, 97, 119]] : List (List Int32)).getD i []).getD j 0
theorem pu_nb : ∀ i, i < 4 → pu_n i < 7 := by decide
theorem pu_cb : ∀ i, i < 4 → ∀ j, j < 7 → ((pu_c i j &&& 255).toUInt32 % 65536).toInt32 = pu_c i j ∧ narrow .char (.int (pu_c i j)) = .int (pu_c i j) := by decide +kernel
theorem c_pi (l : Launch) (k v : Nat → Nat) {j n : Nat} (f : Value) (hf : f = .null ∨ ∃ t, f = .ref t) (hj : j < n) (hn : n < 2 ^ 31) : pu_M l yw_pi prog_21_method_11_code 3 (some .int) 0 0 [.int (nI j), .int (nI n), f] k v (some (.int (nI j))) := by
  have hsz : (lg_sl [.int (nI j), .int (nI n), f]).length ≤ 3 := by
    rcases hf with rfl | ⟨t, rfl⟩ <;> exact Nat.le_of_ble_eq_true rfl
  refine pu_ofW (by decide) hsz (fun p e s m below meth c ls hx hb hml hr hlocks hown ht hX hl => ?_)
  have hl : lv_has ls 3 [(0, .int (nI j)), (1, .int (nI n)), (2, f)] := by
    rcases hf with rfl | ⟨t, rfl⟩ <;> exact hl
  refine lv_iload_n hx hb dw_pi_0 rfl (lv_at hl 0 rfl) ?_
  refine lv_if_lt (tgt := 9) hx hb dw_pi_1 (by decide) (fun z => absurd z (nI_pos (by omega))) (fun _ => ?_)
  refine lv_iload_n hx hb dw_pi_4 rfl (lv_at hl 0 rfl) ?_
  refine lv_iload_n hx hb dw_pi_5 rfl (lv_at hl 1 rfl) ?_
  refine lv_icmp_lt (tgt := 16) hx hb dw_pi_6 (by decide) (fun _ => ?_) (fun z => absurd (nI_lt hj hn) z)
  refine lv_iload_n hx hb dw_pi_16 rfl (lv_at hl 0 rfl) ?_
  exact W.iret hx hb hr (fun t h9 hW => ⟨rfl, h9⟩) (fun q hq => absurd hq List.not_mem_nil) dw_pi_17
theorem c_ci (l : Launch) (k v : Nat → Nat) {j n : Nat} (hj : j < n) (hn : n < 2 ^ 31) : pu_M l yw_ci prog_16_method_155_code 2 none 1 22 [.int (nI j), .int (nI n)] k v none := by
  refine pu_ofW (by decide) (Nat.le_of_ble_eq_true rfl) (fun p e s m below meth c ls hx hb hml hr hlocks hown ht hX hl => ?_)
  have hl : lv_has ls 2 [(0, .int (nI j)), (1, .int (nI n))] := hl
  refine lv_iload_n hx hb dw_ci_0 rfl (lv_at hl 0 rfl) ?_
  refine lv_iload_n hx hb dw_ci_1 rfl (lv_at hl 1 rfl) ?_
  have key : ∀ f : Value, (f = .null ∨ ∃ t, f = .ref t) → va_Z "jdk/internal/util/Preconditions" "SIOOBE_FORMATTER" "Ljava/util/function/BiFunction;" f (fun _ => False) s s.heap → W p l e { frames := 1, cells := 0, slots := 0, locals := 22 } s m [Value.int (nI j), Value.int (nI n)].toArray below meth c s.heap [] 0 0 (MQ below (pu_Q none) [Value.int (nI j), Value.int (nI n)].toArray s 0 0 pu_N) (F0 m 2 ls [.int (nI n), .int (nI j)]) := fun f hf hZ => by
    refine va_gets (own := "java/lang/String") hx hb hZ va_S.rf hown (ht _ (en_tb_in 709 (by decide +kernel) (by decide +kernel))) (fun _ h => h) dw_ci_2 ?_
    refine pu_callS (n := 3) (rest := []) (own := "java/lang/String") hx hb hml hown ht (c_pi l k v f hf hj hn) hX (en_tb_in 713 (by decide +kernel) (by decide +kernel)) (en_tb_in 166 (by decide +kernel) (by decide +kernel)) (en_tb_in 711 (by decide +kernel) (by decide +kernel)) (en_tb_in 712 (by decide +kernel) (by decide +kernel)) rfl (by decide +kernel) ⟨Nat.le_of_ble_eq_true rfl, Nat.le_of_ble_eq_true rfl⟩ hl.1 rfl (Nat.le_of_ble_eq_true rfl) dw_ci_5 ?_
    refine lv_pop hx hb dw_ci_8 rfl ?_
    exact W.vret hx hb hr (fun t h9 hW => ⟨rfl, h9⟩) (fun q hq => absurd hq List.not_mem_nil) dw_ci_9
  rcases hX.2.2.2 with z | ⟨t, z⟩
  · exact key _ (.inl rfl) z
  · exact key _ (.inr ⟨t, rfl⟩) z
theorem c_lc (l : Launch) (k v : Nat → Nat) {i j : Nat} (hi : i < 4) (hj : j < pu_n i) : pu_M l yw_lc prog_17_method_2_code 2 (some .char) 2 43 [.ref (v i), .int (nI j)] k v (some (.int (pu_c i j))) := by
  have hn := pu_nb i hi
  obtain ⟨hc1, hc2⟩ := pu_cb i hi j (by omega)
  refine pu_ofW (by decide) (Nat.le_of_ble_eq_true rfl) (fun p e s m below meth c ls hx hb hml hr hlocks hown ht hX hl => ?_)
  have hl : lv_has ls 2 [(0, .ref (v i)), (1, .int (nI j))] := hl
  obtain ⟨-, -, -, hT⟩ := hX.1.1 i hi
  refine lv_iload_n hx hb dw_lc_0 rfl (lv_at hl 1 rfl) ?_
  refine lv_aload_n hx hb dw_lc_1 rfl (lv_at hl 0 rfl) ?_
  refine va_tlen (v := nI (pu_n i)) hx hb hT va_S.rf rfl dw_lc_2 ?_
  refine pu_callS (n := 2) (rest := []) (own := "java/lang/StringLatin1") hx hb hml hown ht (c_ci l k v hj (by omega)) hX (en_tb_in 708 (by decide +kernel) (by decide +kernel)) (en_tb_in 164 (by decide +kernel) (by decide +kernel)) (en_tb_in 706 (by decide +kernel) (by decide +kernel)) (en_tb_in 707 (by decide +kernel) (by decide +kernel)) rfl (by decide +kernel) ⟨Nat.le_of_ble_eq_true rfl, Nat.le_of_ble_eq_true rfl⟩ hl.1 rfl (Nat.le_of_ble_eq_true rfl) dw_lc_3 ?_
  refine lv_aload_n hx hb dw_lc_6 rfl (lv_at hl 0 rfl) ?_
  refine lv_iload_n hx hb dw_lc_7 rfl (lv_at hl 1 rfl) ?_
  refine va_tb (v := .int (pu_c i j)) hx hb hT va_S.rf (show vp_in (nI j) (pu_n i) from vp_in_nI hj (by omega)) (by rw [nI_clamp (by omega)]; rfl) dw_lc_8 ?_
  refine lv_sipush (v := 255) hx hb dw_lc_9 (by decide) ?_
  refine lv_iand hx hb dw_lc_12 ?_
  refine lv_i2c (v := pu_c i j) hx hb dw_lc_13 hc1 ?_
  exact W.zret hx hb hr hc2 (fun t h9 hW => ⟨rfl, h9⟩) (fun q hq => absurd hq List.not_mem_nil) dw_lc_14
theorem c_la (l : Launch) (k v : Nat → Nat) {i : Nat} (hi : i < 4) : pu_M l yw_la prog_16_method_154_code 1 (some .boolean) 0 0 [.ref (k i)] k v (some (.int 1)) := by
  refine pu_ofW (by decide) (Nat.le_of_ble_eq_true rfl) (fun p e s m below meth c ls hx hb hml hr hlocks hown ht hX hl => ?_)
  have hl : lv_has ls 1 [(0, .ref (k i))] := hl
  obtain ⟨-, hC, -, -⟩ := hX.1.1 i hi
  refine va_gets (own := "java/lang/String") hx hb hX.2.2.1 va_S.rf hown (ht _ (en_tb_in 693 (by decide +kernel) (by decide +kernel))) (fun _ h => h) dw_la_0 ?_
  refine lv_if_eq (tgt := 17) hx hb dw_la_3 (by decide) (fun z => absurd z (by decide)) (fun _ => ?_)
  refine lv_aload_n hx hb dw_la_6 rfl (lv_at hl 0 rfl) ?_
  refine vk_getf (own := "java/lang/String") hx hb hC va_S.rf hown (ht _ (en_tb_in 2320 (by decide +kernel) (by decide +kernel))) (fun _ h => h) dw_la_7 ?_
  refine lv_if_ne (tgt := 17) hx hb dw_la_10 (by decide) (fun z => absurd rfl z) (fun _ => ?_)
  refine lv_iconst (v := 1) hx hb dw_la_13 (by decide) ?_
  refine lv_goto (tgt := 18) hx hb dw_la_14 (by decide) ?_
  exact W.zret hx hb hr rfl (fun t h9 hW => ⟨rfl, h9⟩) (fun q hq => absurd hq List.not_mem_nil) dw_la_18
theorem c_co (l : Launch) (k v : Nat → Nat) {i : Nat} (hi : i < 4) : pu_M l yw_co prog_16_method_152_code 1 (some .byte) 0 0 [.ref (k i)] k v (some (.int 0)) := by
  refine pu_ofW (by decide) (Nat.le_of_ble_eq_true rfl) (fun p e s m below meth c ls hx hb hml hr hlocks hown ht hX hl => ?_)
  have hl : lv_has ls 1 [(0, .ref (k i))] := hl
  obtain ⟨-, hC, -, -⟩ := hX.1.1 i hi
  refine va_gets (own := "java/lang/String") hx hb hX.2.2.1 va_S.rf hown (ht _ (en_tb_in 693 (by decide +kernel) (by decide +kernel))) (fun _ h => h) dw_co_0 ?_
  refine lv_if_eq (tgt := 13) hx hb dw_co_3 (by decide) (fun z => absurd z (by decide)) (fun _ => ?_)
  refine lv_aload_n hx hb dw_co_6 rfl (lv_at hl 0 rfl) ?_
  refine vk_getf (own := "java/lang/String") hx hb hC va_S.rf hown (ht _ (en_tb_in 2320 (by decide +kernel) (by decide +kernel))) (fun _ h => h) dw_co_7 ?_
  refine lv_goto (tgt := 14) hx hb dw_co_10 (by decide) ?_
  exact W.zret hx hb hr rfl (fun t h9 hW => ⟨rfl, h9⟩) (fun q hq => absurd hq List.not_mem_nil) dw_co_14
theorem c_ca (l : Launch) (k v : Nat → Nat) {i j : Nat} (hi : i < 4) (hj : j < pu_n i) : pu_M l yw_ca prog_16_method_56_code 2 (some .char) 3 64 [.ref (k i), .int (nI j)] k v (some (.int (pu_c i j))) := by
  have hn := pu_nb i hi
  obtain ⟨hc1, hc2⟩ := pu_cb i hi j (by omega)
  refine pu_ofW (by decide) (Nat.le_of_ble_eq_true rfl) (fun p e s m below meth c ls hx hb hml hr hlocks hown ht hX hl => ?_)
  have hl : lv_has ls 2 [(0, .ref (k i)), (1, .int (nI j))] := hl
  obtain ⟨-, -, hV, -⟩ := hX.1.1 i hi
  refine lv_aload_n hx hb dw_ca_0 rfl (lv_at hl 0 rfl) ?_
  refine pu_callV (n := 0) (rest := []) (As := []) (own := "java/lang/String") hx hb hml hown ht hi (c_la l k v hi) hX rfl (en_tb_in 702 (by decide +kernel) (by decide +kernel)) (en_tb_in 164 (by decide +kernel) (by decide +kernel)) (en_tb_in 699 (by decide +kernel) (by decide +kernel)) (en_tb_in 700 (by decide +kernel) (by decide +kernel)) (en_tb_in 701 (by decide +kernel) (by decide +kernel)) rfl (by decide +kernel) ⟨Nat.le_of_ble_eq_true rfl, Nat.le_of_ble_eq_true rfl⟩ hl.1 rfl (Nat.le_of_ble_eq_true rfl) dw_ca_1 ?_
  refine lv_if_eq (tgt := 16) hx hb dw_ca_4 (by decide) (fun z => absurd z (by decide)) (fun _ => ?_)
  refine lv_aload_n hx hb dw_ca_7 rfl (lv_at hl 0 rfl) ?_
  refine vk_getf (own := "java/lang/String") hx hb hV va_S.rf hown (ht _ (en_tb_in 2319 (by decide +kernel) (by decide +kernel))) (fun _ h => h) dw_ca_8 ?_
  refine lv_iload_n hx hb dw_ca_11 rfl (lv_at hl 1 rfl) ?_
  refine pu_callS (n := 2) (rest := []) (own := "java/lang/String") hx hb hml hown ht (c_lc l k v hi hj) hX (en_tb_in 705 (by decide +kernel) (by decide +kernel)) (en_tb_in 165 (by decide +kernel) (by decide +kernel)) (en_tb_in 703 (by decide +kernel) (by decide +kernel)) (en_tb_in 704 (by decide +kernel) (by decide +kernel)) rfl (by decide +kernel) ⟨Nat.le_of_ble_eq_true rfl, Nat.le_of_ble_eq_true rfl⟩ hl.1 rfl (Nat.le_of_ble_eq_true rfl) dw_ca_12 ?_
  exact W.zret hx hb hr hc2 (fun t h9 hW => ⟨rfl, h9⟩) (fun q hq => absurd hq List.not_mem_nil) dw_ca_15
theorem pu_nn : ∀ i, i < 4 → nI (pu_n i) >>> ((0 : Int32) &&& 31) = nI (pu_n i) := by decide +kernel
theorem c_sl (l : Launch) (k v : Nat → Nat) {i : Nat} (hi : i < 4) : pu_M l yw_sl prog_16_method_54_code 1 (some .int) 1 20 [.ref (k i)] k v (some (.int (nI (pu_n i)))) := by
  refine pu_ofW (by decide) (Nat.le_of_ble_eq_true rfl) (fun p e s m below meth c ls hx hb hml hr hlocks hown ht hX hl => ?_)
  have hl : lv_has ls 1 [(0, .ref (k i))] := hl
  obtain ⟨-, -, hV, hT⟩ := hX.1.1 i hi
  refine lv_aload_n hx hb dw_sl_0 rfl (lv_at hl 0 rfl) ?_
  refine vk_getf (own := "java/lang/String") hx hb hV va_S.rf hown (ht _ (en_tb_in 2319 (by decide +kernel) (by decide +kernel))) (fun _ h => h) dw_sl_1 ?_
  refine va_tlen (v := nI (pu_n i)) hx hb hT va_S.rf rfl dw_sl_4 ?_
  refine lv_aload_n hx hb dw_sl_5 rfl (lv_at hl 0 rfl) ?_
  refine pu_callV (n := 0) (rest := [.int (nI (pu_n i))]) (As := []) (own := "java/lang/String") hx hb hml hown ht hi (c_co l k v hi) hX rfl (en_tb_in 692 (by decide +kernel) (by decide +kernel)) (en_tb_in 164 (by decide +kernel) (by decide +kernel)) (en_tb_in 689 (by decide +kernel) (by decide +kernel)) (en_tb_in 690 (by decide +kernel) (by decide +kernel)) (en_tb_in 691 (by decide +kernel) (by decide +kernel)) rfl (by decide +kernel) ⟨Nat.le_of_ble_eq_true rfl, Nat.le_of_ble_eq_true rfl⟩ hl.1 rfl (Nat.le_of_ble_eq_true rfl) dw_sl_6 ?_
  refine lv_ishr hx hb dw_sl_9 ?_
  rw [pu_nn i hi]
  exact W.iret hx hb hr (fun t h9 hW => ⟨rfl, h9⟩) (fun q hq => absurd hq List.not_mem_nil) dw_sl_10
def pu_b (x : Int64) (y : Int32) : Int64 := x <<< ((5 : Int32).toInt64 &&& 63) + (y - 97 + 1).toInt64
theorem c_pb (l : Launch) (k v : Nat → Nat) (x : Int64) (y : Int32) : pu_M l yw_pb prog_12_method_19_code 3 (some .long) 0 0 [.long x, .int y] k v (some (.long (pu_b x y))) := by
  refine pu_ofW (by decide) (Nat.le_of_ble_eq_true rfl) (fun p e s m below meth c ls hx hb hml hr hlocks hown ht hX hl => ?_)
  have hl : lv_has ls 3 [(0, .long x), (2, .int y)] := hl
  refine lv_lload_n hx hb dw_pb_0 rfl (lv_at hl 0 rfl) ?_
  refine lv_iconst (v := 5) hx hb dw_pb_1 (by decide) ?_
  refine lv_lshl hx hb dw_pb_2 rfl ?_
  refine lv_iload_n hx hb dw_pb_3 rfl (lv_at hl 1 rfl) ?_
  refine lv_bipush (v := 97) hx hb dw_pb_4 (by decide) ?_
  refine lv_isub hx hb dw_pb_6 ?_
  refine lv_iconst (v := 1) hx hb dw_pb_7 (by decide) ?_
  refine lv_iadd hx hb dw_pb_8 ?_
  refine lv_i2l hx hb dw_pb_9 rfl ?_
  refine lv_ladd hx hb dw_pb_10 ?_
  exact W.lret hx hb hr (fun t h9 hW => ⟨rfl, h9⟩) (fun q hq => absurd hq List.not_mem_nil) dw_pb_11
def pu_w (i : Nat) : Nat → Int64
  | 0 => 0
  | j + 1 => pu_b (pu_w i j) (pu_c i j)
theorem c_pw (l : Launch) (k v : Nat → Nat) {i : Nat} (hi : i < 4) : pu_M l yw_pw prog_12_method_20_code 4 (some .long) 4 85 [.ref (k i)] k v (some (.long (pu_w i (pu_n i)))) := by
  have hn := pu_nb i hi
  refine pu_ofW (by decide) (Nat.le_of_ble_eq_true rfl) (fun p e s m below meth c ls hx hb hml hr hlocks hown ht hX hl => ?_)
  have hl : lv_has ls 4 [(0, .ref (k i))] := hl
  have key : ∀ (n j : Nat), j + n = pu_n i → ∀ ls : Array Slot, lv_has ls 4 [(3, .int (nI j)), (1, .long (pu_w i j)), (0, .ref (k i))] → W p l e { frames := 4, cells := 0, slots := 0, locals := 85 } s m [Value.ref (k i)].toArray below meth c s.heap [] 0 0 (MQ below (pu_Q (some (.long (pu_w i (pu_n i))))) [Value.ref (k i)].toArray s 0 0 pu_N) (F0 m 4 ls []) := by
    intro n
    induction n with
    | zero =>
      intro j hj ls hl
      refine lv_iload_n hx hb dw_pw_4 rfl (lv_at hl 0 rfl) ?_
      refine lv_aload_n hx hb dw_pw_5 rfl (lv_at hl 2 rfl) ?_
      refine pu_callV (n := 0) (rest := [.int (nI j)]) (As := []) (own := "WordAlgebra$Tokens") hx hb hml hown ht hi (c_sl l k v hi) hX rfl (en_tb_in 688 (by decide +kernel) (by decide +kernel)) (en_tb_in 164 (by decide +kernel) (by decide +kernel)) (en_tb_in 685 (by decide +kernel) (by decide +kernel)) (en_tb_in 686 (by decide +kernel) (by decide +kernel)) (en_tb_in 687 (by decide +kernel) (by decide +kernel)) rfl (by decide +kernel) ⟨Nat.le_of_ble_eq_true rfl, Nat.le_of_ble_eq_true rfl⟩ hl.1 rfl (Nat.le_of_ble_eq_true rfl) dw_pw_6 ?_
      have e : j = pu_n i := by omega
      subst e
      refine lv_icmp_ge (tgt := 28) hx hb dw_pw_9 (by decide) (fun _ => ?_) (fun z => absurd (nI_le (Nat.le_refl _) (by omega)) z)
      refine lv_lload_n hx hb dw_pw_28 rfl (lv_at hl 1 rfl) ?_
      exact W.lret hx hb hr (fun t h9 hW => ⟨rfl, h9⟩) (fun q hq => absurd hq List.not_mem_nil) dw_pw_29
    | succ n ih =>
      intro j hj ls hl
      have hlt : j < pu_n i := by omega
      refine lv_iload_n hx hb dw_pw_4 rfl (lv_at hl 0 rfl) ?_
      refine lv_aload_n hx hb dw_pw_5 rfl (lv_at hl 2 rfl) ?_
      refine pu_callV (n := 0) (rest := [.int (nI j)]) (As := []) (own := "WordAlgebra$Tokens") hx hb hml hown ht hi (c_sl l k v hi) hX rfl (en_tb_in 688 (by decide +kernel) (by decide +kernel)) (en_tb_in 164 (by decide +kernel) (by decide +kernel)) (en_tb_in 685 (by decide +kernel) (by decide +kernel)) (en_tb_in 686 (by decide +kernel) (by decide +kernel)) (en_tb_in 687 (by decide +kernel) (by decide +kernel)) rfl (by decide +kernel) ⟨Nat.le_of_ble_eq_true rfl, Nat.le_of_ble_eq_true rfl⟩ hl.1 rfl (Nat.le_of_ble_eq_true rfl) dw_pw_6 ?_
      refine lv_icmp_ge (tgt := 28) hx hb dw_pw_9 (by decide) (fun z => absurd z (nI_ge hlt (by omega))) (fun _ => ?_)
      refine lv_lload_n hx hb dw_pw_12 rfl (lv_at hl 1 rfl) ?_
      refine lv_aload_n hx hb dw_pw_13 rfl (lv_at hl 2 rfl) ?_
      refine lv_iload_n hx hb dw_pw_14 rfl (lv_at hl 0 rfl) ?_
      refine pu_callV (n := 1) (rest := [.long (pu_w i j)]) (As := [.int (nI j)]) (own := "WordAlgebra$Tokens") hx hb hml hown ht hi (c_ca l k v hi hlt) hX rfl (en_tb_in 698 (by decide +kernel) (by decide +kernel)) (en_tb_in 164 (by decide +kernel) (by decide +kernel)) (en_tb_in 695 (by decide +kernel) (by decide +kernel)) (en_tb_in 696 (by decide +kernel) (by decide +kernel)) (en_tb_in 697 (by decide +kernel) (by decide +kernel)) rfl (by decide +kernel) ⟨Nat.le_of_ble_eq_true rfl, Nat.le_of_ble_eq_true rfl⟩ hl.1 rfl (Nat.le_of_ble_eq_true rfl) dw_pw_15 ?_
      refine pu_callS (n := 2) (rest := []) (own := "WordAlgebra$Tokens") hx hb hml hown ht (c_pb l k v (pu_w i j) (pu_c i j)) hX (en_tb_in 677 (by decide +kernel) (by decide +kernel)) (en_tb_in 152 (by decide +kernel) (by decide +kernel)) (en_tb_in 675 (by decide +kernel) (by decide +kernel)) (en_tb_in 676 (by decide +kernel) (by decide +kernel)) rfl (by decide +kernel) ⟨Nat.le_of_ble_eq_true rfl, Nat.le_of_ble_eq_true rfl⟩ hl.1 rfl (Nat.le_of_ble_eq_true rfl) dw_pw_18 ?_
      refine lv_lstore_n (lv' := [(1, .long (pu_w i (j + 1))), (3, .int (nI j)), (0, .ref (k i))]) hx hb dw_pw_21 rfl hl (by decide) rfl (fun ls hl => ?_)
      refine lv_iinc (v := nI (j + 1)) (lv' := [(3, .int (nI (j + 1))), (1, .long (pu_w i (j + 1))), (0, .ref (k i))]) hx hb dw_pw_22 hl (k := 1) rfl (nI_succ j).symm (by decide) rfl (fun ls hl => ?_)
      refine lv_goto (tgt := 4) hx hb dw_pw_25 (by decide) ?_
      exact ih (j + 1) (by omega) ls hl
  refine lv_lconst (v := 0) hx hb dw_pw_0 (by decide) ?_
  refine lv_lstore_n (lv' := [(1, .long 0), (0, .ref (k i))]) hx hb dw_pw_1 rfl hl (by decide) rfl (fun ls hl => ?_)
  refine lv_iconst (v := nI 0) hx hb dw_pw_2 (by decide) ?_
  refine lv_istore_n (lv' := [(3, .int (nI 0)), (1, .long 0), (0, .ref (k i))]) hx hb dw_pw_3 rfl hl (by decide) rfl (fun ls hl => ?_)
  exact key (pu_n i) 0 (by omega) ls hl
theorem pu_w0 : pu_w 0 (pu_n 0) = Int64.ofInt 17376677 ∧ pu_w 1 (pu_n 1) = Int64.ofInt 408572082 ∧ pu_w 2 (pu_n 2) = Int64.ofInt 655 ∧ pu_w 3 (pu_n 3) = Int64.ofInt 12343 := by decide +kernel
theorem pu_cmp0 {a b c : Int} (hc : w64 b = c) : ¬ (lg_cmp (Int64.ofInt a) (Int64.ofInt b) = 0) → ¬ w64 a = c := fun h q => h (by rw [← hc] at q; rw [nu_cmp]; rw [if_neg (by omega), if_neg (by omega)]; rfl)
theorem pu_cmp1 {a b c : Int} (hc : w64 b = c) : (lg_cmp (Int64.ofInt a) (Int64.ofInt b) = 0) → w64 a = c := fun h => by
  rw [← hc]
  rw [nu_cmp] at h
  by_cases q : w64 a < w64 b
  · rw [if_pos q] at h; exact absurd h (by decide)
  · rw [if_neg q] at h
    by_cases r : w64 b < w64 a
    · rw [if_pos r] at h; exact absurd h (by decide)
    · omega
set_option maxHeartbeats 1000000 in
theorem en_wk_all (l : Launch) : en_WK l := by
  intro ad cA D σ sz x
  refine Met.ofW (cc := prog_12_method_21_code) (maxL := 2) (ret := some .int) (by decide) rfl ?_
  intro p e s m args below meth c s₁ BB hml hv
  obtain ⟨rfl, hsz, hP, hK, hD, hX⟩ := hv
  have hx := BB.exec
  have hb := BB.bytes
  have hr := BB.returns
  have hlocks := BB.notSynchronized
  have hts := atoms_spec (ws := en_ws z_X10_wordKind) BB.pre
  have ht : ∀ w ∈ en_tb, w.before ([Value.long (Int64.ofInt x)] : List Value).toArray s = true := fun w hw => hts w (List.mem_cons_of_mem _ hw)
  have hown : s.vm.findClass "WordAlgebra$Tokens" = some m.cls := findClass_of_methodNamed BB.named
  obtain ⟨k, v, hX⟩ := pu_of hX
  rw [lg_entry_eq]
  suffices key : ∀ ls : Array Slot, lv_has ls 2 [(0, .long (Int64.ofInt x))] → W p l e (en_rm z_X10_wordKind) s m ([Value.long (Int64.ofInt x)] : List Value).toArray below meth c s.heap [] 0 0 (MQ below (en_Qc ad cA D (some (.inl (en_wk x))) σ sz) ([Value.long (Int64.ofInt x)] : List Value).toArray s 0 0 (en_A ad sz)) (F0 m 0 ls []) from key _ (lv_entry [Value.long (Int64.ofInt x)] (n := 2) (Nat.le_of_ble_eq_true rfl))
  intro ls hl
  have fin : ∀ (pc : Nat) (z : Int32) (zi : Int), z = Int32.ofInt zi → en_wk x = zi → decode prog_12_method_21_code pc = .ok (.ireturn, 1) → W p l e (en_rm z_X10_wordKind) s m ([Value.long (Int64.ofInt x)] : List Value).toArray below meth c s.heap [] 0 0 (MQ below (en_Qc ad cA D (some (.inl (en_wk x))) σ sz) ([Value.long (Int64.ofInt x)] : List Value).toArray s 0 0 (en_A ad sz)) (F0 m pc ls [.int z]) := fun pc z zi e1 e2 hd => by
    subst e1 e2
    exact W.iret hx hb hr (fun t h9 hW => ⟨rfl, by rw [h9]; exact hP, by rw [h9]; exact Nat.le_refl _, fun q _ _ => by rw [h9]⟩) (fun q hq => absurd hq List.not_mem_nil) hd
  obtain ⟨e0, e1, e2, e3⟩ := pu_w0
  refine lv_lload_n hx hb dw_wk_0 rfl (lv_at hl 0 rfl) ?_
  refine va_ldcS (own := "WordAlgebra$Tokens") hx hb hown hX.2.1.1 dw_wk_1 ?_
  refine pu_callS (n := 1) (rest := [.long (Int64.ofInt x)]) (own := "WordAlgebra$Tokens") hx hb hml hown ht (c_pw l k v (i := 0) (by decide)) hX (en_tb_in 684 (by decide +kernel) (by decide +kernel)) (en_tb_in 152 (by decide +kernel) (by decide +kernel)) (en_tb_in 682 (by decide +kernel) (by decide +kernel)) (en_tb_in 683 (by decide +kernel) (by decide +kernel)) rfl (by decide +kernel) ⟨Nat.le_of_ble_eq_true rfl, Nat.le_of_ble_eq_true rfl⟩ hl.1 rfl (Nat.le_of_ble_eq_true rfl) dw_wk_3 ?_
  rw [e0]
  refine W.lcmp hx hb dw_wk_6 ?_
  refine lv_if_ne (tgt := 12) hx hb dw_wk_7 (by decide) (fun n0 => ?_) (fun n0 => ?_)
  rotate_left
  · have n0 : w64 x = 17376677 := pu_cmp1 (by decide) n0
    refine lv_iconst (v := 1) hx hb dw_wk_10 (by decide) ?_
    exact fin 11 1 1 rfl (by unfold en_wk; rw [if_pos n0]) dw_wk_11
  have n0 : ¬ w64 x = 17376677 := pu_cmp0 (by decide) n0
  refine lv_lload_n hx hb dw_wk_12 rfl (lv_at hl 0 rfl) ?_
  refine va_ldcS (own := "WordAlgebra$Tokens") hx hb hown hX.2.1.2.1 dw_wk_13 ?_
  refine pu_callS (n := 1) (rest := [.long (Int64.ofInt x)]) (own := "WordAlgebra$Tokens") hx hb hml hown ht (c_pw l k v (i := 1) (by decide)) hX (en_tb_in 684 (by decide +kernel) (by decide +kernel)) (en_tb_in 152 (by decide +kernel) (by decide +kernel)) (en_tb_in 682 (by decide +kernel) (by decide +kernel)) (en_tb_in 683 (by decide +kernel) (by decide +kernel)) rfl (by decide +kernel) ⟨Nat.le_of_ble_eq_true rfl, Nat.le_of_ble_eq_true rfl⟩ hl.1 rfl (Nat.le_of_ble_eq_true rfl) dw_wk_15 ?_
  rw [e1]
  refine W.lcmp hx hb dw_wk_18 ?_
  refine lv_if_ne (tgt := 24) hx hb dw_wk_19 (by decide) (fun n1 => ?_) (fun n1 => ?_)
  rotate_left
  · have n1 : w64 x = 408572082 := pu_cmp1 (by decide) n1
    refine lv_iconst (v := 2) hx hb dw_wk_22 (by decide) ?_
    exact fin 23 2 2 rfl (by unfold en_wk; rw [if_neg n0, if_pos n1]) dw_wk_23
  have n1 : ¬ w64 x = 408572082 := pu_cmp0 (by decide) n1
  refine lv_lload_n hx hb dw_wk_24 rfl (lv_at hl 0 rfl) ?_
  refine va_ldcS (own := "WordAlgebra$Tokens") hx hb hown hX.2.1.2.2.1 dw_wk_25 ?_
  refine pu_callS (n := 1) (rest := [.long (Int64.ofInt x)]) (own := "WordAlgebra$Tokens") hx hb hml hown ht (c_pw l k v (i := 2) (by decide)) hX (en_tb_in 684 (by decide +kernel) (by decide +kernel)) (en_tb_in 152 (by decide +kernel) (by decide +kernel)) (en_tb_in 682 (by decide +kernel) (by decide +kernel)) (en_tb_in 683 (by decide +kernel) (by decide +kernel)) rfl (by decide +kernel) ⟨Nat.le_of_ble_eq_true rfl, Nat.le_of_ble_eq_true rfl⟩ hl.1 rfl (Nat.le_of_ble_eq_true rfl) dw_wk_27 ?_
  rw [e2]
  refine W.lcmp hx hb dw_wk_30 ?_
  refine lv_if_ne (tgt := 36) hx hb dw_wk_31 (by decide) (fun n2 => ?_) (fun n2 => ?_)
  rotate_left
  · have n2 : w64 x = 655 := pu_cmp1 (by decide) n2
    refine lv_iconst (v := 3) hx hb dw_wk_34 (by decide) ?_
    exact fin 35 3 3 rfl (by unfold en_wk; rw [if_neg n0, if_neg n1, if_pos n2]) dw_wk_35
  have n2 : ¬ w64 x = 655 := pu_cmp0 (by decide) n2
  refine lv_lload_n hx hb dw_wk_36 rfl (lv_at hl 0 rfl) ?_
  refine va_ldcS (own := "WordAlgebra$Tokens") hx hb hown hX.2.1.2.2.2 dw_wk_37 ?_
  refine pu_callS (n := 1) (rest := [.long (Int64.ofInt x)]) (own := "WordAlgebra$Tokens") hx hb hml hown ht (c_pw l k v (i := 3) (by decide)) hX (en_tb_in 684 (by decide +kernel) (by decide +kernel)) (en_tb_in 152 (by decide +kernel) (by decide +kernel)) (en_tb_in 682 (by decide +kernel) (by decide +kernel)) (en_tb_in 683 (by decide +kernel) (by decide +kernel)) rfl (by decide +kernel) ⟨Nat.le_of_ble_eq_true rfl, Nat.le_of_ble_eq_true rfl⟩ hl.1 rfl (Nat.le_of_ble_eq_true rfl) dw_wk_39 ?_
  rw [e3]
  refine W.lcmp hx hb dw_wk_42 ?_
  refine lv_if_ne (tgt := 50) hx hb dw_wk_43 (by decide) (fun n3 => ?_) (fun n3 => ?_)
  · have n3 : ¬ w64 x = 12343 := pu_cmp0 (by decide) n3
    refine lv_iconst (v := 5) hx hb dw_wk_50 (by decide) ?_
    exact fin 51 5 5 rfl (by unfold en_wk; rw [if_neg n0, if_neg n1, if_neg n2, if_neg n3]) dw_wk_51
  · have n3 : w64 x = 12343 := pu_cmp1 (by decide) n3
    refine lv_iconst (v := 4) hx hb dw_wk_46 (by decide) ?_
    refine lv_goto (tgt := 51) hx hb dw_wk_47 (by decide) ?_
    exact fin 51 4 4 rfl (by unfold en_wk; rw [if_neg n0, if_neg n1, if_neg n2, if_pos n3]) dw_wk_51
