/-! the cells of the real machine, told by the engine's memory -/
def en_rv (ad : Nat → Int → Nat) : en_v → Value
  | .inl z => .int (Int32.ofInt z)
  | .inr (.inl z) => .long (Int64.ofInt z)
  | .inr (.inr q) => .ref (ad q.1 q.2)
def en_ok : en_v → Prop
  | .inr (.inr q) => q ∈ en_C
  | _ => True
def en_fv (ad : Nat → Int → Nat) (σ : en_m) (f : Nat × Nat × Nat) : Value := match f with
  | (0, r, _) => .int (Int32.ofInt (σ r 0))
  | (1, r, _) => .int (Int32.ofInt (σ r 0))
  | (2, r, _) => .long (Int64.ofInt (σ r 0))
  | (3, r, _) => .ref (ad r 0)
  | (4, r, t) => .ref (ad t (σ r 0))
  | (5, r, t) => .ref (ad (t + (σ r 0).toNat) 0)
  | _ => .null
def en_fi (n : Nat) (g : Int → Int) (b : Int) : Nat → Int32 := fun j => if j < n then Int32.ofInt (g (b + j)) else 0
def en_fl (n : Nat) (g : Int → Int) (b : Int) : Nat → Int64 := fun j => if j < n then Int64.ofInt (g (b + j)) else 0
def en_ar (ad : Nat → Int → Nat) (cA : Nat → ClassId) (g : Int → Int) (b : Int) (x : Nat × Nat × Nat) : va_E := match x with
  | (3, n, _) => .inl (cA 3, n, .inr (.inl (en_fl n g b)))
  | (4, n, t) => .inl (cA 4, n, .inr (.inr (.inr (.inr (fun j => some (ad t (j * en_len t)))))))
  | (ty, n, _) => .inl (cA ty, n, .inl (en_fi n g b))
def en_en (ad : Nat → Int → Nat) (cA : Nat → ClassId) (σ : en_m) (q : Nat × Int) : va_E := match en_K q.1 with
  | .inl (c, fs) => .inr (c, fs.map (en_fv ad σ))
  | .inr x => en_ar ad cA (σ q.1) q.2 x
def en_W (ad : Nat → Int → Nat) (cA : Nat → ClassId) (σ : en_m) : va_W := en_C.map (fun q => (ad q.1 q.2, en_en ad cA σ q))
abbrev en_tys (cA : Nat → ClassId) : List (ClassId × FieldType) := [(cA 0, .int), (cA 1, .byte), (cA 2, .boolean), (cA 3, .long), (cA 4, .array .int)]
theorem en_W_at {ad : Nat → Int → Nat} {cA : Nat → ClassId} {σ : en_m} {q : Nat × Int} (h : q ∈ en_C) : ∃ q0 : Nat, en_C[q0]? = some q ∧ (en_W ad cA σ)[q0]? = some (ad q.1 q.2, en_en ad cA σ q) := by
  obtain ⟨q0, hq⟩ := List.getElem?_of_mem h
  exact ⟨q0, hq, by unfold en_W; rw [List.getElem?_map, hq]; rfl⟩
theorem en_nd : ∀ (l : List (Nat × Int)), l.Nodup → ∀ (i j : Nat) (a : Nat × Int), l[i]? = some a → l[j]? = some a → i = j
  | [], _, _, _, _, h, _ => by cases h
  | x :: l, hn, i, j, a, h1, h2 => by
    obtain ⟨g1, g2⟩ := List.nodup_cons.mp hn
    cases i with
    | zero =>
      cases j with
      | zero => rfl
      | succ j => cases h1; exact absurd (List.mem_of_getElem? (show l[j]? = some x from h2)) g1
    | succ i =>
      cases j with
      | zero => cases h2; exact absurd (List.mem_of_getElem? (show l[i]? = some x from h1)) g1
      | succ j => rw [en_nd l g2 i j a h1 h2]
theorem en_W_set {ad : Nat → Int → Nat} {cA : Nat → ClassId} {σ σ' : en_m} {q : Nat × Int} {q0 : Nat} {E : va_E} (h0 : en_C[q0]? = some q) (hE : en_en ad cA σ' q = E) (ho : ∀ p ∈ en_C, p ≠ q → en_en ad cA σ' p = en_en ad cA σ p) : (en_W ad cA σ).set q0 (ad q.1 q.2, E) = en_W ad cA σ' := by
  apply List.ext_getElem?
  intro i
  unfold en_W
  rw [List.getElem?_set, List.length_map, List.getElem?_map, List.getElem?_map]
  have hl := (List.getElem?_eq_some_iff.mp h0).1
  by_cases hi : q0 = i
  · subst hi
    rw [if_pos rfl, if_pos hl, h0]
    show some (ad q.1 q.2, E) = some (ad q.1 q.2, en_en ad cA σ' q)
    rw [hE]
  · rw [if_neg hi]
    cases hp : en_C[i]? with
    | none => rfl
    | some p =>
      have hne : p ≠ q := by
        intro e
        subst e
        exact hi (en_nd _ la_nodup q0 i _ h0 hp)
      show some (ad p.1 p.2, en_en ad cA σ p) = some (ad p.1 p.2, en_en ad cA σ' p)
      rw [ho p (List.mem_of_getElem? hp) hne]
theorem sr_same (σ : en_m) (k : Nat) (f : Int → Int) : sr σ k f k = f := by
  unfold sr; rw [Nat.beq_refl]; rfl
theorem sr_ne {σ : en_m} {k k' : Nat} {f : Int → Int} (h : k' ≠ k) : sr σ k f k' = σ k' := by
  unfold sr
  cases e : Nat.beq k' k with
  | true => exact absurd (Nat.eq_of_beq_eq_true e) h
  | false => rfl
theorem en_len_of {k ty n t : Nat} (h : en_K k = .inr (ty, n, t)) : en_len k = n := by unfold en_len; rw [h]
/-- an array's cell written: the other cells stay -/
theorem en_o_arr {ad : Nat → Int → Nat} {cA : Nat → ClassId} {σ : en_m} {k : Nat} {b : Int} {ty n t : Nat} {g : Int → Int} (hq : (k, b) ∈ en_C) (hk : en_K k = .inr (ty, n, t)) (hg : ∀ x : Int, ¬ (b ≤ x ∧ x < b + n) → g x = σ k x) : ∀ p ∈ en_C, p ≠ (k, b) → en_en ad cA (sr σ k g) p = en_en ad cA σ p := by
  intro p hp hne
  obtain ⟨k', b'⟩ := p
  have ha := la_arr hq hk
  unfold en_en
  dsimp only
  cases hk' : en_K k' with
  | inl x =>
    obtain ⟨c, fs⟩ := x
    dsimp only
    congr 2
    apply List.map_congr_left
    intro f hf
    obtain ⟨i, hi⟩ := List.getElem?_of_mem hf
    have hfo := (la_field hp hk' hi).2
    have key : ∀ r : Nat, la_sto r = true → sr σ k g r = σ r := by
      intro r hr
      refine sr_ne (fun e => ?_)
      subst e
      unfold la_sto at hr
      rw [hk] at hr
      have : ty ≤ 4 := ha.1
      match ty, this with
      | 0, _ => cases hr
      | 1, _ => cases hr
      | 2, _ => cases hr
      | 3, _ => cases hr
      | 4, _ => cases hr
    obtain ⟨tag, r, t'⟩ := f
    unfold la_fok at hfo
    unfold en_fv
    match tag, hfo with
    | 0, h => simp only [Bool.and_eq_true] at h; exact congrArg (fun g : Int → Int => Value.int (Int32.ofInt (g 0))) (key r h.1)
    | 1, h => simp only [Bool.and_eq_true] at h; exact congrArg (fun g : Int → Int => Value.int (Int32.ofInt (g 0))) (key r h.1)
    | 2, h => simp only [Bool.and_eq_true] at h; exact congrArg (fun g : Int → Int => Value.long (Int64.ofInt (g 0))) (key r h.1)
    | 3, h => rfl
    | 4, h => simp only [Bool.and_eq_true] at h; exact congrArg (fun g : Int → Int => Value.ref (ad t' (g 0))) (key r h.1.1.1.1)
    | 5, h => simp only [Bool.and_eq_true] at h; exact congrArg (fun g : Int → Int => Value.ref (ad (t' + (g 0).toNat) 0)) (key r h.1.1.1.1)
    | _ + 6, h => cases h
  | inr x =>
    dsimp only
    by_cases e : k' = k
    · subst e
      rw [hk] at hk'
      cases hk'
      rw [sr_same]
      have hb : b' ≠ b := fun e => hne (by rw [e])
      have h2 := la_two hq hp
      rw [en_len_of hk] at h2
      have hgx : ∀ j : Nat, j < n → g (b' + j) = σ k' (b' + j) := by
        intro j hj
        apply hg
        omega
      have hfi : en_fi n g b' = en_fi n (σ k') b' := by
        funext j
        unfold en_fi
        split
        · rename_i hj; rw [hgx j hj]
        · rfl
      have hfl : en_fl n g b' = en_fl n (σ k') b' := by
        funext j
        unfold en_fl
        split
        · rename_i hj; rw [hgx j hj]
        · rfl
      match ty, ha.1 with
      | 0, _ => show Sum.inl (cA 0, n, Sum.inl (en_fi n g b')) = _; rw [hfi]; rfl
      | 1, _ => show Sum.inl (cA 1, n, Sum.inl (en_fi n g b')) = _; rw [hfi]; rfl
      | 2, _ => show Sum.inl (cA 2, n, Sum.inl (en_fi n g b')) = _; rw [hfi]; rfl
      | 3, _ => show Sum.inl (cA 3, n, Sum.inr (Sum.inl (en_fl n g b'))) = _; rw [hfl]; rfl
      | 4, _ => rfl
    · rw [sr_ne e]
/-- a field's place written: the other cells stay -/
theorem en_o_fld {ad : Nat → Int → Nat} {cA : Nat → ClassId} {σ : en_m} {k r i : Nat} {g : Int → Int} (hr : la_sto r = true) (ho : la_ow r la_OW = some (k, i)) : (∀ p ∈ en_C, p ≠ (k, 0) → en_en ad cA (sr σ r g) p = en_en ad cA σ p) ∧ ∀ (c : Nat) (fs : List (Nat × Nat × Nat)), (k, 0) ∈ en_C → en_K k = .inl (c, fs) → ∀ (i' : Nat) (f : Nat × Nat × Nat), fs[i']? = some f → i' ≠ i → en_fv ad (sr σ r g) f = en_fv ad σ f := by
  have key : ∀ (k' : Nat) (i' : Nat) (f : Nat × Nat × Nat), la_fok k' i' f = true → (k', i') ≠ (k, i) → en_fv ad (sr σ r g) f = en_fv ad σ f := by
    intro k' i' f hfo hne
    have k2 : ∀ r' : Nat, decide (la_ow r' la_OW = some (k', i')) = true → sr σ r g r' = σ r' := by
      intro r' h
      refine sr_ne (fun e => ?_)
      subst e
      have h := of_decide_eq_true h
      rw [ho] at h
      exact hne (Option.some.inj h).symm
    obtain ⟨tag, r', t'⟩ := f
    unfold la_fok at hfo
    unfold en_fv
    match tag, hfo with
    | 0, h => simp only [Bool.and_eq_true] at h; exact congrArg (fun g : Int → Int => Value.int (Int32.ofInt (g 0))) (k2 r' h.2)
    | 1, h => simp only [Bool.and_eq_true] at h; exact congrArg (fun g : Int → Int => Value.int (Int32.ofInt (g 0))) (k2 r' h.2)
    | 2, h => simp only [Bool.and_eq_true] at h; exact congrArg (fun g : Int → Int => Value.long (Int64.ofInt (g 0))) (k2 r' h.2)
    | 3, h => rfl
    | 4, h => simp only [Bool.and_eq_true] at h; exact congrArg (fun g : Int → Int => Value.ref (ad t' (g 0))) (k2 r' h.1.1.1.2)
    | 5, h => simp only [Bool.and_eq_true] at h; exact congrArg (fun g : Int → Int => Value.ref (ad (t' + (g 0).toNat) 0)) (k2 r' h.1.1.1.2)
    | _ + 6, h => cases h
  refine ⟨fun p hp hne => ?_, fun c fs hq hk i' f hf hi => key k i' f (la_field hq hk hf).2 (fun e => hi (Prod.ext_iff.mp e).2)⟩
  obtain ⟨k', b'⟩ := p
  unfold en_en
  dsimp only
  cases hk' : en_K k' with
  | inl x =>
    obtain ⟨c, fs⟩ := x
    dsimp only
    congr 2
    apply List.map_congr_left
    intro f hf
    obtain ⟨i', hi⟩ := List.getElem?_of_mem hf
    obtain ⟨h0, hfo⟩ := la_field hp hk' hi
    exact key k' i' f hfo (fun e => hne (by rw [h0, show k' = k from congrArg Prod.fst e]))
  | inr x =>
    dsimp only
    have e : k' ≠ r := by
      intro e
      subst e
      unfold la_sto at hr
      rw [hk'] at hr
      obtain ⟨ty, n, t⟩ := x
      have := (la_arr hp hk').1
      match ty, this with
      | 0, _ => cases hr
      | 1, _ => cases hr
      | 2, _ => cases hr
      | 3, _ => cases hr
      | 4, _ => cases hr
    rw [sr_ne e]
/-- the classes by their numbers -/
theorem en_cls {c : Nat} {q : vw_C} (h : classes[c]? = some q) : (∀ w ∈ u_ws q.1 q.2.1 q.2.2, w ∈ en_tb) ∧ ∃ ty : Nat → FieldType, (∀ k, k < q.2.2 → parseFieldDescriptor (q.2.1 k).2.2.1 = some (ty k)) ∧ ∀ a, a < q.2.2 → ∀ b, b < q.2.2 → a ≠ b → (q.2.1 a).2.1 ≠ (q.2.1 b).2.1 := by
  match c, h with
  | 0, h => cases h; exact ⟨en_inX0, tyX0, tyX0_ok, nmX0⟩
  | 1, h => cases h; exact ⟨en_inX1, tyX1, tyX1_ok, nmX1⟩
  | 2, h => cases h; exact ⟨en_inX2, tyX2, tyX2_ok, nmX2⟩
  | 3, h => cases h; exact ⟨en_inX3, tyX3, tyX3_ok, nmX3⟩
  | 4, h => cases h; exact ⟨en_inX4, tyX4, tyX4_ok, nmX4⟩
  | 5, h => cases h; exact ⟨en_inX5, tyX5, tyX5_ok, nmX5⟩
  | 6, h => cases h; exact ⟨en_inX6, tyX6, tyX6_ok, nmX6⟩
  | 7, h => cases h; exact ⟨en_inX7, tyX7, tyX7_ok, nmX7⟩
  | 8, h => cases h; exact ⟨en_inX8, tyX8, tyX8_ok, nmX8⟩
  | 9, h => cases h; exact ⟨en_inX9, tyX9, tyX9_ok, nmX9⟩
  | 10, h => cases h; exact ⟨en_inX10, tyX10, tyX10_ok, nmX10⟩
  | 11, h => cases h; exact ⟨en_inX11, tyX11, tyX11_ok, nmX11⟩
  | 12, h => cases h; exact ⟨en_inX12, tyX12, tyX12_ok, nmX12⟩
  | n + 13, h => cases h
/-- locals -/
def en_lh (ad : Nat → Int → Nat) (A : Array Slot) (n : Nat) (ls : en_l) : Prop := A.size = n ∧ lv_wf A ∧ ∀ (i : Nat) (v : en_v), en_get ls i = some v → A[i]? = some (.val (en_rv ad v))
def en_ll (ad : Nat → Int → Nat) : Nat → en_l → List (Nat × Value)
  | _, [] => []
  | i, none :: r => en_ll ad (i + 1) r
  | i, some v :: r => (i, en_rv ad v) :: en_ll ad (i + 1) r
theorem en_ll_mem {ad : Nat → Int → Nat} : ∀ {ls : en_l} {i0 : Nat} {q : Nat × Value}, q ∈ en_ll ad i0 ls → ∃ (i : Nat) (v : en_v), en_get ls i = some v ∧ q = (i0 + i, en_rv ad v)
  | [], _, _, h => by cases h
  | none :: r, i0, q, h => by
    obtain ⟨i, v, h1, h2⟩ := en_ll_mem (ls := r) (i0 := i0 + 1) h
    exact ⟨i + 1, v, h1, by rw [h2]; congr 1; omega⟩
  | some w :: r, i0, q, h => by
    rcases List.mem_cons.mp h with h | h
    · exact ⟨0, w, rfl, h⟩
    · obtain ⟨i, v, h1, h2⟩ := en_ll_mem (ls := r) (i0 := i0 + 1) h
      exact ⟨i + 1, v, h1, by rw [h2]; congr 1; omega⟩
theorem en_ll_of {ad : Nat → Int → Nat} : ∀ {ls : en_l} {i0 i : Nat} {v : en_v}, en_get ls i = some v → (i0 + i, en_rv ad v) ∈ en_ll ad i0 ls
  | [], _, _, _, h => by cases h
  | none :: r, i0, i, v, h => by
    cases i with
    | zero => cases h
    | succ i =>
      have := en_ll_of (ad := ad) (ls := r) (i0 := i0 + 1) (i := i) h
      rw [show i0 + (i + 1) = i0 + 1 + i by omega]
      exact this
  | some w :: r, i0, i, v, h => by
    cases i with
    | zero => cases h; exact List.mem_cons_self
    | succ i =>
      have := en_ll_of (ad := ad) (ls := r) (i0 := i0 + 1) (i := i) h
      rw [show i0 + (i + 1) = i0 + 1 + i by omega]
      exact List.mem_cons_of_mem _ this
theorem en_lh_has {ad : Nat → Int → Nat} {A : Array Slot} {n : Nat} {ls : en_l} (h : en_lh ad A n ls) : lv_has A n (en_ll ad 0 ls) := by
  refine ⟨h.1, h.2.1, fun q hq => ?_⟩
  obtain ⟨i, v, h1, h2⟩ := en_ll_mem hq
  rw [h2]
  show A[0 + i]? = _
  rw [Nat.zero_add]
  exact h.2.2 i v h1
theorem en_get_set : ∀ (ls : en_l) (i j : Nat) (o : Option en_v) (v : en_v), en_get (en_set ls i o) j = some v → (i = j ∧ o = some v) ∨ (i ≠ j ∧ en_get ls j = some v)
  | [], _, _, _, _, h => by cases h
  | x :: r, i, j, o, v, h => by
    cases i with
    | zero =>
      cases j with
      | zero => exact Or.inl ⟨rfl, h⟩
      | succ j => exact Or.inr ⟨by omega, h⟩
    | succ i =>
      cases j with
      | zero => exact Or.inr ⟨by omega, h⟩
      | succ j =>
        rcases en_get_set r i j o v h with h | h
        · exact Or.inl ⟨by omega, h.2⟩
        · exact Or.inr ⟨by omega, h.2⟩
theorem en_cat (ad : Nat → Int → Nat) (v : en_v) : (en_rv ad v).category = en_w1 v := by
  match v with
  | .inl _ => rfl
  | .inr (.inl _) => rfl
  | .inr (.inr _) => rfl
theorem en_kill_get {ls : en_l} {i j : Nat} {v : en_v} (h : en_get (en_kill ls i) j = some v) : en_get ls j = some v ∧ ¬ (j + 1 = i ∧ en_w1 v = 2) := by
  cases i with
  | zero => exact ⟨h, by omega⟩
  | succ n =>
    have h' : en_get (bif en_c2 (en_get ls n) then en_set ls n none else ls) j = some v := h
    cases hc : en_c2 (en_get ls n) with
    | true =>
      rw [hc] at h'
      rcases en_get_set ls n j none v h' with ⟨_, e⟩ | ⟨hne, e⟩
      · cases e
      · exact ⟨e, fun q => hne (by omega)⟩
    | false =>
      rw [hc] at h'
      refine ⟨h', fun q => ?_⟩
      have e : j = n := by omega
      subst e
      rw [show en_get ls j = some v from h'] at hc
      match v, q.2 with
      | .inr (.inl _), _ => cases hc
/-- one word stored -/
theorem en_lh_s1 {ad : Nat → Int → Nat} {A' : Array Slot} {n i : Nat} {ls : en_l} {v : en_v} (h : lv_has A' n ((i, en_rv ad v) :: (en_ll ad 0 ls).filter (fun q => !(q.1 == i) && !(q.1 + 1 == i && q.2.category == 2)))) : en_lh ad A' n (en_s1 ls i v) := by
  refine ⟨h.1, h.2.1, fun j w hw => ?_⟩
  rcases en_get_set (en_kill ls i) i j (some v) w hw with ⟨e, e2⟩ | ⟨hne, e⟩
  · subst e
    cases e2
    exact h.2.2 _ List.mem_cons_self
  · obtain ⟨g1, g2⟩ := en_kill_get e
    have hm := en_ll_of (ad := ad) (i0 := 0) g1
    rw [Nat.zero_add] at hm
    refine h.2.2 (j, en_rv ad w) (List.mem_cons_of_mem _ (List.mem_filter.mpr ⟨hm, ?_⟩))
    have h1 : (j == i) = false := by simpa using fun e => hne e.symm
    have h2 : (j + 1 == i && (en_rv ad w).category == 2) = false := by
      rw [en_cat]
      cases hx : (j + 1 == i) with
      | false => rfl
      | true =>
        cases hy : (en_w1 w == 2) with
        | false => rfl
        | true => exact absurd ⟨by simpa using hx, by simpa using hy⟩ g2
    show (!(j == i) && !(j + 1 == i && (en_rv ad w).category == 2)) = true
    rw [h1, h2]
    rfl
theorem en_lh_s2 {ad : Nat → Int → Nat} {A' : Array Slot} {n i : Nat} {ls : en_l} {v : en_v} (h : lv_has A' n ((i, en_rv ad v) :: (en_ll ad 0 ls).filter (fun q => !(q.1 == i) && (!(q.1 == i + 1) && !(q.1 + 1 == i && q.2.category == 2))))) : en_lh ad A' n (en_s2 ls i v) := by
  refine ⟨h.1, h.2.1, fun j w hw => ?_⟩
  rcases en_get_set (en_s1 ls i v) (i + 1) j none w hw with ⟨_, e2⟩ | ⟨hne1, hw⟩
  · cases e2
  rcases en_get_set (en_kill ls i) i j (some v) w hw with ⟨e, e2⟩ | ⟨hne, e⟩
  · subst e
    cases e2
    exact h.2.2 _ List.mem_cons_self
  · obtain ⟨g1, g2⟩ := en_kill_get e
    have hm := en_ll_of (ad := ad) (i0 := 0) g1
    rw [Nat.zero_add] at hm
    refine h.2.2 (j, en_rv ad w) (List.mem_cons_of_mem _ (List.mem_filter.mpr ⟨hm, ?_⟩))
    have h1 : (j == i) = false := by simpa using fun e => hne e.symm
    have h3 : (j == i + 1) = false := by simpa using fun e => hne1 e.symm
    have h2 : (j + 1 == i && (en_rv ad w).category == 2) = false := by
      rw [en_cat]
      cases hx : (j + 1 == i) with
      | false => rfl
      | true =>
        cases hy : (en_w1 w == 2) with
        | false => rfl
        | true => exact absurd ⟨by simpa using hx, by simpa using hy⟩ g2
    show (!(j == i) && (!(j == i + 1) && !(j + 1 == i && (en_rv ad w).category == 2))) = true
    rw [h1, h2, h3]
    rfl
def en_lok (ls : en_l) : Prop := ∀ (i : Nat) (v : en_v), en_get ls i = some v → en_ok v
theorem en_lok_s1 {ls : en_l} {i : Nat} {v : en_v} (h : en_lok ls) (hv : en_ok v) : en_lok (en_s1 ls i v) := by
  intro j w hw
  rcases en_get_set _ _ _ _ _ hw with ⟨_, e⟩ | ⟨_, e⟩
  · cases e; exact hv
  · exact h j w (en_kill_get e).1
theorem en_lok_s2 {ls : en_l} {i : Nat} {v : en_v} (h : en_lok ls) (hv : en_ok v) : en_lok (en_s2 ls i v) := by
  intro j w hw
  rcases en_get_set _ _ _ _ _ hw with ⟨_, e⟩ | ⟨_, e⟩
  · cases e
  · exact en_lok_s1 h hv j w e
