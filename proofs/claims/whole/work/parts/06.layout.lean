/-! what the layout promises, decided -/
def la_OW : List (Nat × Nat × Nat) := [(17, 0, 12), (18, 0, 13), (19, 0, 14), (21, 1, 1), (26, 2, 4), (27, 2, 5), (28, 2, 6), (29, 2, 7), (30, 2, 8), (31, 2, 9), (32, 2, 10), (33, 2, 11), (34, 2, 12), (35, 2, 13), (36, 2, 14), (37, 2, 15), (45, 3, 5), (51, 4, 6), (52, 4, 7), (53, 4, 8), (54, 4, 9), (55, 4, 10), (56, 4, 11), (57, 5, 0), (58, 5, 1), (59, 5, 2), (63, 6, 0), (64, 6, 1), (65, 6, 2), (69, 7, 0), (70, 7, 1), (71, 7, 2), (78, 8, 3), (86, 8, 11), (90, 9, 3), (98, 9, 11), (100, 10, 2), (101, 10, 3), (106, 10, 7), (107, 10, 8), (113, 11, 6), (114, 11, 7), (116, 12, 4), (123, 13, 8), (124, 13, 9), (138, 15, 0), (140, 15, 2), (142, 15, 4), (148, 15, 10), (149, 15, 11), (150, 15, 12), (151, 15, 13), (152, 15, 14), (153, 15, 15), (154, 15, 16), (155, 15, 17), (156, 15, 18), (157, 15, 19), (172, 15, 34), (173, 15, 35), (190, 15, 52), (194, 15, 56), (204, 15, 66), (205, 15, 67)]
def la_ow (r : Nat) : List (Nat × Nat × Nat) → Option (Nat × Nat)
  | [] => none
  | q :: l => bif Nat.beq r q.1 then some q.2 else la_ow r l
def la_mem (q : Nat × Int) : Bool := en_C.any (fun p => Nat.beq p.1 q.1 && decide (p.2 = q.2))
theorem la_mem_of {q : Nat × Int} (h : la_mem q = true) : q ∈ en_C := by
  obtain ⟨p, hp, he⟩ := List.any_eq_true.mp h
  simp only [Bool.and_eq_true, decide_eq_true_eq] at he
  have h1 : p.1 = q.1 := Nat.eq_of_beq_eq_true he.1
  have h2 : p = q := Prod.ext h1 he.2
  rw [← h2]; exact hp
def la_sto (r : Nat) : Bool := match en_K r with
  | .inr (9, _, _) => true
  | _ => false
def la_obj (r : Nat) : Bool := match en_K r with
  | .inl _ => true
  | _ => false
def la_fok (k i : Nat) (f : Nat × Nat × Nat) : Bool := match f with
  | (0, r, _) | (1, r, _) | (2, r, _) => la_sto r && decide (la_ow r la_OW = some (k, i))
  | (3, r, _) => la_mem (r, 0)
  | (4, r, t) => la_sto r && decide (la_ow r la_OW = some (k, i)) && la_mem (t, 0) && la_mem (t, en_len t) && !la_obj t
  | (5, r, t) => la_sto r && decide (la_ow r la_OW = some (k, i)) && la_mem (t, 0) && la_mem (t + 1, 0) && la_mem (t + 2, 0)
  | _ => false
def la_fsok (k : Nat) : Nat → List (Nat × Nat × Nat) → Bool
  | _, [] => true
  | i, f :: r => la_fok k i f && la_fsok k (i + 1) r
def la_qok (q : Nat × Int) : Bool := match en_K q.1 with
  | .inl (_, fs) => decide (q.2 = 0) && la_fsok q.1 0 fs
  | .inr (ty, n, t) => Nat.ble ty 4 && Nat.ble n 2147483647 && (bif Nat.beq ty 4 then (List.range n).all (fun j => la_mem (t, (j : Int) * en_len t)) && !la_sto t else true)
def la_apt (q p : Nat × Int) : Bool := !Nat.beq q.1 p.1 || decide (q.2 = p.2) || decide (q.2 + en_len q.1 ≤ p.2) || decide (p.2 + en_len q.1 ≤ q.2)
set_option maxRecDepth 100000 in
theorem la_ok : en_C.all la_qok = true := by decide +kernel
set_option maxRecDepth 100000 in
theorem la_apart : en_C.all (fun q => en_C.all (la_apt q)) = true := by decide +kernel
set_option maxRecDepth 100000 in
theorem la_nodup : en_C.Nodup := by decide +kernel
theorem la_fsok_at {k : Nat} : ∀ {fs : List (Nat × Nat × Nat)} {i0 i : Nat} {f : Nat × Nat × Nat}, la_fsok k i0 fs = true → fs[i]? = some f → la_fok k (i0 + i) f = true
  | [], _, _, _, _, h => by cases h
  | g :: r, i0, i, f, h, hf => by
    have hh : (la_fok k i0 g && la_fsok k (i0 + 1) r) = true := h
    simp only [Bool.and_eq_true] at hh
    cases i with
    | zero => cases hf; exact hh.1
    | succ i =>
      have := la_fsok_at (i0 := i0 + 1) hh.2 (show r[i]? = some f from hf)
      rw [show i0 + (i + 1) = i0 + 1 + i by omega]
      exact this
theorem la_field {k : Nat} {b : Int} {c : Nat} {fs : List (Nat × Nat × Nat)} {i : Nat} {f : Nat × Nat × Nat} (hq : (k, b) ∈ en_C) (hk : en_K k = .inl (c, fs)) (hf : fs[i]? = some f) : b = 0 ∧ la_fok k i f = true := by
  have h := List.all_eq_true.mp la_ok _ hq
  unfold la_qok at h
  dsimp only at h
  rw [hk] at h
  simp only [Bool.and_eq_true, decide_eq_true_eq] at h
  have := la_fsok_at h.2 hf
  rw [Nat.zero_add] at this
  exact ⟨h.1, this⟩
theorem la_arr {k : Nat} {b : Int} {ty n t : Nat} (hq : (k, b) ∈ en_C) (hk : en_K k = .inr (ty, n, t)) : ty ≤ 4 ∧ n ≤ 2147483647 ∧ (ty = 4 → (∀ j : Nat, j < n → (t, (j : Int) * en_len t) ∈ en_C) ∧ la_sto t = false) := by
  have h := List.all_eq_true.mp la_ok _ hq
  unfold la_qok at h
  dsimp only at h
  rw [hk] at h
  simp only [Bool.and_eq_true] at h
  refine ⟨Nat.le_of_ble_eq_true h.1.1, Nat.le_of_ble_eq_true h.1.2, fun e => ?_⟩
  subst e
  have h2 := h.2
  simp only [Nat.beq_refl, cond_true, Bool.and_eq_true, List.all_eq_true, List.mem_range, Bool.not_eq_true'] at h2
  exact ⟨fun j hj => la_mem_of (h2.1 j hj), h2.2⟩
theorem la_two {k : Nat} {b b' : Int} (h1 : (k, b) ∈ en_C) (h2 : (k, b') ∈ en_C) : b = b' ∨ b + en_len k ≤ b' ∨ b' + en_len k ≤ b := by
  have h := List.all_eq_true.mp (List.all_eq_true.mp la_apart _ h1) _ h2
  unfold la_apt at h
  simp only [Nat.beq_refl, Bool.not_true, Bool.false_or, Bool.or_eq_true, decide_eq_true_eq] at h
  rcases h with (h | h) | h
  · exact Or.inl h
  · exact Or.inr (Or.inl h)
  · exact Or.inr (Or.inr h)
