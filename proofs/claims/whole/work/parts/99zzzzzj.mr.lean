/-! a row of rows of ints, made by one instruction: the state behind it, by a fold over the places -/
def mr_t (h : Nat) (d : ClassId) (M : Nat) (S : State) (i : Nat) : State := (S.pushCell (arrV d M fun _ => .int 0)).setCell h (((S.heap[h]?).getD (arrV d 0 fun _ => .null)).setSlot i (.ref S.heap.size))
theorem mr_top (h : Nat) (d : ClassId) (M : Nat) (S : State) (g : JFrame) (i : Nat) : mr_t h d M (S.setTop g) i = (mr_t h d M S i).setTop g := by
  simp only [mr_t, State.heap_setTop, State.pushCell_setTop, State.setCell_setTop]
section MRW
variable {p : Program} {l : Launch} {e : Env} {R : Room} {s : State} {m : MethodId} {args : Array Value} {below : List Frame} {meth : Method} {c : Code}
/-- i rows stand -/
def mr_I (p : Program) (l : Launch) (e : Env) (R : Room) (s : State) (m : MethodId) (args : Array Value) (below : List Frame) (meth : Method) (c : Code) (H : Heap) (locs : List Loc) (cells slots N M : Nat) (ci d : ClassId) (v1 : Vm) (i : Nat) (S : State) : Prop :=
  (∃ L : List Loc, Stand p l e R s m args below meth c S L (cells + 1 + i) (slots + N + i * M) ∧ ∀ q ∈ L, q ∈ locs ∨ q.base = H.size) ∧ S.vm = v1 ∧ S.heap.size = H.size + 1 + i ∧ S.heap[H.size]? = some (arrV ci N fun j => if j < i then .ref (H.size + 1 + j) else .null) ∧ (∀ j : Nat, j < i → S.heap[H.size + 1 + j]? = some (arrV d M fun _ => .int 0)) ∧ ∀ q : Nat, q < H.size → S.heap[q]? = H[q]?
theorem mr_one {H : Heap} {locs : List Loc} {cells slots N M i : Nat} {ci d : ClassId} {v1 : Vm} {S : State} (h : mr_I p l e R s m args below meth c H locs cells slots N M ci d v1 i S) : mr_I p l e R s m args below meth c H locs cells slots N M ci d v1 (i + 1) (mr_t H.size d M S i) := by
  obtain ⟨⟨L, X, hL⟩, h1, h2, h3, h4, h5⟩ := h
  have hlt : H.size < S.heap.size := by omega
  have g0 : (S.pushCell (arrV d M fun _ => .int 0)).heap[H.size]? = some (arrV ci N fun j => if j < i then .ref (H.size + 1 + j) else .null) := by
    rw [State.heap_pushCell_of_lt (h := hlt)]; exact h3
  have e1 : mr_t H.size d M S i = (S.pushCell (arrV d M fun _ => .int 0)).setCell H.size ((arrV ci N fun j => if j < i then .ref (H.size + 1 + j) else .null).setSlot i (.ref (H.size + 1 + i))) := by
    unfold mr_t
    rw [h3, h2]
    rfl
  have e2 : ((arrV ci N fun j => if j < i then Value.ref (H.size + 1 + j) else .null).setSlot i (.ref (H.size + 1 + i))) = arrV ci N fun j => if j < i + 1 then .ref (H.size + 1 + j) else .null := by
    rw [arrV_store]
    congr 1
    funext j
    unfold updV
    by_cases q : j = i
    · rw [if_pos q, if_pos (by omega), q]
    · rw [if_neg q]
      dsimp only
      by_cases r : j < i
      · rw [if_pos r, if_pos (by omega)]
      · rw [if_neg r, if_neg (by omega)]
  have X2 := (X.pushed (arrV d M fun _ => .int 0)).stored g0 i (.ref (H.size + 1 + i))
  rw [e1]
  refine ⟨⟨L ++ [⟨H.size, i⟩], ?_, fun q hq => ?_⟩, ?_, ?_, ?_, fun j hj => ?_, fun q hq => ?_⟩
  · have ec : cells + 1 + (i + 1) = cells + 1 + i + 1 := rfl
    have es : slots + N + (i + 1) * M = slots + N + i * M + (arrV d M fun _ => .int 0).slots.size := by rw [arrV_size, Nat.succ_mul, ← Nat.add_assoc]
    rw [ec, es]
    exact X2
  · rcases List.mem_append.mp hq with q1 | q1
    · exact hL q q1
    · rw [List.mem_singleton.mp q1]; exact .inr rfl
  · exact h1
  · have : ((S.pushCell (arrV d M fun _ => .int 0)).heap.setIfInBounds H.size ((arrV ci N fun j => if j < i then .ref (H.size + 1 + j) else .null).setSlot i (.ref (H.size + 1 + i)))).size = H.size + 1 + (i + 1) := by
      rw [Array.size_setIfInBounds]
      show (S.heap.push _).size = _
      rw [Array.size_push, h2]
      rfl
    exact this
  · rw [State.heap_setCell_self g0, e2]
  · rw [State.heap_setCell_other (show H.size ≠ H.size + 1 + j by omega)]
    by_cases r : j < i
    · rw [State.heap_pushCell_of_lt (h := (show H.size + 1 + j < S.heap.size by omega))]
      exact h4 j r
    · have ej : j = i := by omega
      rw [ej, ← h2]
      exact State.heap_pushCell_size _ _
  · rw [State.heap_setCell_other (show H.size ≠ q by omega), State.heap_pushCell_of_lt (h := (show q < S.heap.size by omega))]
    exact h5 q hq
theorem mr_all {H : Heap} {locs : List Loc} {cells slots N M : Nat} {ci d : ClassId} {v1 : Vm} : ∀ (k i : Nat) (S : State), mr_I p l e R s m args below meth c H locs cells slots N M ci d v1 i S → mr_I p l e R s m args below meth c H locs cells slots N M ci d v1 (i + k) ((List.range' i k).foldl (mr_t H.size d M) S)
  | 0, i, S, h => h
  | k + 1, i, S, h => by
    rw [List.range'_succ, List.foldl_cons, show i + (k + 1) = i + 1 + k by omega]
    exact mr_all k (i + 1) _ (mr_one h)
theorem mr_ext {ci : ClassId} {N : Nat} {f g : Nat → Value} (h : ∀ j, j < N → f j = g j) : arrV ci N f = arrV ci N g := by
  unfold arrV
  congr 1
  apply Array.ext
  · simp
  · intro j h1 h2
    simp at h1
    simp [h j h1]
set_option maxHeartbeats 1000000 in
theorem mr_W {H : Heap} {locs : List Loc} {cells slots : Nat} {Q : State → Prop} {cc : ByteArray} {ls : Array Slot} {rest : List Value} {pc index N M : Nat} {own : String} (hx : p.tables.exec = Jvm.exec) (hb : c.code = cc) (hown : s.vm.findClass own = some m.cls) (hlink : (Cond.classLink own index "[[I").before args s = true) (hover : (Cond.arrayOver (.array .int)).before args s = true) (harr : (Cond.arrayClass .int).before args s = true) (hdg : decode cc pc = .ok (.multianewarray index 2, 4)) (hN : N < 1000) (hM : M < 1000) (hcells : cells + (1 + N) ≤ R.cells) (hslots : slots + (N + N * M) ≤ R.slots)
    (kk : ∀ (H1 : Heap) (locs1 : List Loc) (d ci : ClassId), s.vm.findClass ("[" ++ FieldType.int.toString) = some d → s.vm.findClass ("[" ++ (FieldType.array .int).toString) = some ci → H1.size = H.size + (1 + N) → (∀ q : Nat, q < H.size → H1[q]? = H[q]?) → H1[H.size]? = some (arrV ci N fun j => .ref (H.size + 1 + j)) → (∀ j : Nat, j < N → H1[H.size + 1 + j]? = some (arrV d M fun _ => .int 0)) → (∀ q ∈ locs1, q ∈ locs ∨ q.base = H.size) → W p l e R s m args below meth c H1 locs1 (cells + (1 + N)) (slots + (N + N * M)) Q (F0 m (pc + 4) ls (.ref H.size :: rest))) : W p l e R s m args below meth c H locs cells slots Q (F0 m pc ls (.int (nI M) :: .int (nI N) :: rest)) := by
  intro T hT X
  have hpl : e.platform.magicAccessors = ({} : Platform).magicAccessors := by rw [X.admits.platform]
  obtain ⟨d, ci, kA, hfd, -, hkA, hkindA, hfc⟩ := arrayOverA_spec (t := .int) hover
  obtain ⟨d1, kC, cp, hfd1, hkC, hkindC⟩ := Cond.arrayClass_spec harr
  have ed : d1 = d := Option.some.inj (hfd1.symm.trans hfd)
  subst ed
  obtain ⟨c0, hfc0, hcl⟩ := Cond.classLink_spec hown hlink e.platform hpl
  have ec : c0 = ci := Option.some.inj (hfc0.symm.trans hfc)
  subst ec
  obtain ⟨hg1, hwarm, -⟩ := State.classEntry (e := e) X.warmed hcl
  generalize T.vm.noted m.cls index (.cls c0) = v1 at hg1 hwarm
  have hal : s.vm.Alike v1 := hwarm.alike
  obtain ⟨kA1, hkA1, heA⟩ := hal.2.2 _ _ hkA
  obtain ⟨kC1, hkC1, heC⟩ := hal.2.2 _ _ hkC
  have hkindA1 : kA1.kind = .array d1 (.array .int) := by rw [heA]; exact hkindA
  have hkindC1 : kC1.kind = .array cp .int := by rw [heC]; exact hkindC
  have hNc : (nI N).toNatClampNeg = N := nI_clamp (by omega)
  have hMc : (nI M).toNatClampNeg = M := nI_clamp (by omega)
  have lim : ∀ n : Nat, n < 1000 → ¬ n > e.platform.arrayLengthLimit ∧ ¬ n * 4 > e.platform.maxHeapBytes := fun n hn => by
    rw [Launch.admits_arrayLengthLimit X.admits, Launch.admits_maxHeapBytes X.admits]
    omega
  have X1 := X.noted hwarm
  have I0 : mr_I p l e R s m args below meth c H locs cells slots N M c0 d1 v1 0 ((T.setVm v1).pushCell (arrV c0 N fun _ => .null)) := by
    refine ⟨⟨locs, ?_, fun q hq => .inl hq⟩, rfl, ?_, ?_, fun j hj => absurd hj (Nat.not_lt_zero _), fun q hq => ?_⟩
    · have := X1.pushed (arrV c0 N fun _ => .null)
      rw [arrV_size] at this
      rw [Nat.zero_mul]
      exact this
    · show (T.heap.push _).size = _
      rw [Array.size_push, hT]
    · have h9 : (T.setVm v1).heap = H := hT
      have := State.heap_pushCell_size (T.setVm v1) (arrV c0 N fun _ => .null)
      rw [h9] at this
      rw [this]
      congr 2
    · have h9 : (T.setVm v1).heap = H := hT
      rw [State.heap_pushCell_of_lt (h := by rw [h9]; exact hq), h9]
  have IF := mr_all N 0 _ I0
  rw [Nat.zero_add] at IF
  generalize hFd : (List.range' 0 N).foldl (mr_t H.size d1 M) ((T.setVm v1).pushCell (arrV c0 N fun _ => .null)) = F at IF
  obtain ⟨⟨L, XF, hL⟩, g1, g2, g3, g4, g5⟩ := IF
  have g3 : F.heap[H.size]? = some (arrV c0 N fun j => .ref (H.size + 1 + j)) := by
    rw [g3]
    exact congrArg some (mr_ext (fun j hj => if_pos hj))
  obtain ⟨t2, a1, b1⟩ := kk F.heap L d1 c0 hfd1 hfc (by omega) g5 g3 g4 hL F rfl (by rw [← Nat.add_assoc, ← Nat.add_assoc]; exact XF)
  refine ⟨t2, ?_, b1⟩
  have hstart : decode c.code pc = .ok (.multianewarray index 2, 4) := by rw [hb]; exact hdg
  have htop := X1.here.top
  jvm_step X.here [hx, hstart]
  simp only [Op.multianewarray.sem, wp_bind', W.resolveClassAt_links (State.method?_setTop (F0 m pc ls (.int (nI M) :: .int (nI N) :: rest)) X.here.top) hg1]
  rw [W.popN, if_neg (by decide)]
  refine ⟨F0 m pc ls (.int (nI M) :: .int (nI N) :: rest), ?_, [.int (nI N), .int (nI M)], rest, rfl, rfl, ?_⟩
  · exact State.topJava?_setTop' (s := T.setVm v1) _ htop
  simp only [List.mapM_cons, List.mapM_nil, wp_bind', wp_pure']
  rw [Op.multianewarray.make]
  simp only [wp_bind', W.ite, wp_pure', W.theClass]
  rw [if_neg (nI_pos (by omega))]
  refine ⟨kA1, hkA1, ?_⟩
  rw [hkindA1]
  dsimp only
  have eS : ((T.setTop (F0 m pc ls (.int (nI M) :: .int (nI N) :: rest))).setVm v1).setTop (F0 m pc ls rest) = (T.setVm v1).setTop (F0 m pc ls rest) := by
    show ((T.setVm v1).setTop _).setTop _ = _
    rw [State.setTop_setTop]
  have hfind : List.find? (fun x : Int32 => decide (x < 0)) [nI M] = none := by
    rw [List.find?_cons_of_neg (by simpa using nI_pos (n := M) (by omega))]
    rfl
  have hroom := X1.roomAbove (a := 1 + N) (b := N + N * M) hcells hslots
  refine (?_ : wp _ _ _ e true [] (((T.setTop (F0 m pc ls (.int (nI M) :: .int (nI N) :: rest))).setVm v1).setTop (F0 m pc ls rest)))
  rw [eS]
  simp only [wp_bind', hfind, ite_self, hNc]
  refine W.newArray_of (k := kA1) hkA1 hkindA1 (lim N hN).1 (lim N hN).2 (by have h9 : T.heap.size + (1 + N) ≤ _ := hroom.1; show T.heap.size < _; omega) (by have h9 : T.slotsUsed + (N + N * M) ≤ _ := hroom.2; show T.slotsUsed + N ≤ _; exact Nat.le_trans (by rw [← Nat.add_assoc]; exact Nat.le_add_right _ _) h9) rfl (fun acts1 => ?_)
  have hh : ((T.setVm v1).setTop (F0 m pc ls rest)).heap.size = H.size := by
    show T.heap.size = _
    rw [hT]
  have e0 : ((T.setVm v1).setTop (F0 m pc ls rest)).pushCell { cls := c0, slots := Array.replicate N Value.null } = ((T.setVm v1).pushCell (arrV c0 N fun _ => .null)).setTop (F0 m pc ls rest) := by
    rw [← arrV_new, State.pushCell_setTop]
  rw [e0, hh]
  simp only [wp_bind']
  rw [Std.Legacy.Range.forIn_eq_forIn_range', show ([:N] : Std.Legacy.Range).size = N by simp [Std.Legacy.Range.size]]
  show wp (forIn (List.range' 0 N 1) PUnit.unit _) _ _ e _ _ _
  refine wp_forIn_inv (fun r9 s9 => ∃ (i : Nat) (S : State), i ≤ N ∧ r9 = List.range' i (N - i) ∧ s9 = S.setTop (F0 m pc ls rest) ∧ mr_I p l e R s m args below meth c H locs cells slots N M c0 d1 v1 i S ∧ r9.foldl (mr_t H.size d1 M) S = F) _ _ ⟨0, _, Nat.zero_le _, rfl, rfl, I0, hFd⟩ ?_ ?_
  · rintro x r9 s9 d9 acts9 Q9 ⟨i, S, hi, hr, rfl, hI, hF9⟩ hnext
    have hlt : i < N := by
      rcases Nat.lt_or_ge i N with h | h
      · exact h
      · rw [show N - i = 0 by omega] at hr
        cases hr
    rw [show N - i = (N - (i + 1)) + 1 by omega, List.range'_succ] at hr
    obtain ⟨rfl, rfl⟩ := List.cons.inj hr
    obtain ⟨⟨L9, XS, hL9⟩, q1, q2, q3, q4, q5⟩ := id hI
    have hmul : x * M + M ≤ N * M := by
      rw [← Nat.succ_mul]
      exact Nat.mul_le_mul_right M hlt
    have hroom9 := XS.roomAbove (a := 1) (b := M) (by omega) (by omega)
    simp only [wp_bind']
    rw [Op.multianewarray.make]
    simp only [wp_bind', W.ite, wp_pure', W.theClass]
    rw [if_neg (nI_pos (by omega))]
    refine ⟨kC1, (by show S.vm.classes[d1]? = _; rw [q1]; exact hkC1), ?_⟩
    rw [hkindC1]
    dsimp only
    simp only [hMc]
    refine W.newArray_of (k := kC1) (by show S.vm.classes[d1]? = _; rw [q1]; exact hkC1) hkindC1 (lim M hM).1 (lim M hM).2 (by have h9 : S.heap.size + 1 ≤ _ := hroom9.1; show S.heap.size < _; omega) (by have h9 : S.slotsUsed + M ≤ _ := hroom9.2; exact h9) rfl (fun acts2 => ?_)
    have hs2 : (S.setTop (F0 m pc ls rest)).heap.size = S.heap.size := rfl
    have e2 : (S.setTop (F0 m pc ls rest)).pushCell { cls := d1, slots := Array.replicate M (defaultValue FieldType.int) } = (S.pushCell (arrV d1 M fun _ => .int 0)).setTop (F0 m pc ls rest) := by
      rw [← arrV_new, State.pushCell_setTop]
      rfl
    rw [e2, hs2]
    simp only [wp_bind', W.writeLoc, wp_pure']
    have g0 : (S.pushCell (arrV d1 M fun _ => .int 0)).heap[H.size]? = some (arrV c0 N fun j => if j < x then .ref (H.size + 1 + j) else .null) := by
      rw [State.heap_pushCell_of_lt (h := (show H.size < S.heap.size by omega))]; exact q3
    refine ⟨_, g0, (by intro h; cases h), (by rw [arrV_size]; exact hlt), ?_, hnext _ _ _ ⟨x + 1, mr_t H.size d1 M S x, hlt, rfl, ?_, mr_one hI, hF9⟩⟩
    · show State.fitsSlot _ c0 .none x _ = true
      have hv9 : S.vm.classes[c0]? = some kA1 := by rw [q1]; exact hkA1
      simp [State.fitsSlot, State.slotType?]
      rw [hv9]
      simp [hkindA1]
      rfl
    · rw [State.setCell_setTop]
      unfold mr_t
      rw [q3]
      rfl
  · rintro s9 d9 acts9 ⟨i, S, hi, hr, rfl, hI, hF9⟩
    simp only [wp_pure', W.mark, W.pushRef]
    have hF9 : S = F := hF9
    subst hF9
    refine ⟨F0 m pc ls rest, ?_, ?_⟩
    · exact State.topJava?_setTop' (s := S) _ XF.here.top
    rw [State.setTop_setTop]
    intro acts
    simp [jvm, XF.here.top]
    exact a1
end MRW
theorem va_Nw_over {U : State} {args : Array Value} (h : (Cond.arrayOver (.array .int)).before #[] U = true) : (Cond.arrayOver (.array .int)).before args U = true := over_moved (Vm.Alike.refl U.vm) h
