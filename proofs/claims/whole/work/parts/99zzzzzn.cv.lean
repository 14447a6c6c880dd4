/-! what the constructors make is the engine's memory -/
def cv_bs : List Nat := [0, 1, 3, 8, 28, 45, 29, 24, 50, 172, 76, 84, 170, 198, 210, 241, 49, 0, 0, 0, 2, 0, 4, 5, 6, 7, 0, 0, 0, 0, 0, 0, 0, 0, 0, 0, 0, 0, 10, 9, 16, 15, 21, 22, 23, 0, 33, 35, 34, 43, 44, 0, 0, 0, 0, 0, 0, 0, 0, 0, 46, 47, 48, 0, 0, 0, 30, 31, 32, 0, 0, 0, 25, 26, 27, 52, 51, 68, 0, 69, 70, 71, 72, 73, 74, 75, 0, 174, 173, 190, 0, 191, 192, 193, 194, 195, 196, 197, 0, 77, 0, 0, 79, 80, 81, 82, 0, 0, 85, 86, 88, 87, 169, 0, 0, 171, 0, 199, 200, 201, 202, 203, 204, 0, 0, 205, 206, 207, 208, 209, 212, 211, 219, 218, 237, 238, 239, 240, 0, 242, 0, 243, 0, 244, 245, 246, 247, 248, 0, 0, 0, 0, 0, 0, 0, 0, 0, 0, 249, 250, 251, 252, 253, 254, 255, 256, 257, 258, 259, 260, 261, 262, 0, 0, 263, 264, 265, 266, 267, 268, 269, 270, 271, 272, 273, 274, 275, 276, 277, 278, 0, 279, 280, 281, 0, 282, 283, 284, 285, 286, 287, 288, 289, 290, 0, 0, 291, 292, 293, 294, 295, 296]
def cv_g : List (Nat × List Int) := [(17, [-1]), (18, [-9]), (19, [-9]), (45, [2]), (58, [7]), (59, [97]), (60, [1, 0, 0, 0, 0, 0, 0, 0]), (61, [0, 1, 1, 1, 1, 1, 1, 1, 1]), (64, [7]), (65, [97]), (66, [1, 0, 0, 0, 0, 0, 0, 0]), (67, [0, 1, 1, 1, 1, 1, 1, 1, 1]), (70, [7]), (71, [97]), (72, [1, 0, 0, 0, 0, 0, 0, 0]), (73, [0, 1, 1, 1, 1, 1, 1, 1, 1]), (86, [-1]), (98, [-1]), (101, [81]), (107, [2912]), (123, [1]), (155, [-1])]
def cv_b (r : Nat) : Nat := cv_bs.getD r 0
def cv_p (r : Nat) (b : Int) : Nat := cv_b r + (b / (en_len r : Int)).toNat
def cv_ad (sz : Nat) : Nat → Int → Nat := fun r b => sz + cv_p r b
def cv_look (r : Nat) : List (Nat × List Int) → Option (List Int)
  | [] => none
  | q :: t => bif Nat.beq q.1 r then some q.2 else cv_look r t
/-- what the cells hold when all are made -/
def cv_s : en_m := fun r => match cv_look r cv_g with
  | some xs => fun x => xs.getD x.toNat 0
  | none => fun _ => 0
def cv_f (f : Nat × Nat × Nat) (o : Option en_v) : Bool := match f, o with
  | (0, r, _), some (.inl v) => decide (cv_s r 0 = v)
  | (1, r, _), some (.inl v) => decide (cv_s r 0 = v)
  | (2, r, _), some (.inr (.inl v)) => decide (cv_s r 0 = v)
  | (3, r, _), some (.inr (.inr k)) => Nat.beq (cv_p r 0) k.1
  | (4, r, t), some (.inr (.inr k)) => Nat.beq (cv_p t (cv_s r 0)) k.1
  | (5, r, t), some (.inr (.inr k)) => Nat.beq (cv_p (t + (cv_s r 0).toNat) 0) k.1
  | _, _ => false
def cv_fs : List (Nat × Nat × Nat) → List (Option en_v) → Bool
  | [], [] => true
  | f :: r, o :: t => cv_f f o && cv_fs r t
  | _, _ => false
def cv_a (r : Nat) (b : Int) (ty n : Nat) (xs : List Int) : Bool := match cv_look r cv_g with
  | some ys => Nat.beq ty 0 && (decide (b = 0) && (decide (xs = ys) && Nat.ble xs.length n))
  | none => xs.all (fun v => decide (v = 0))
def cv_q (C : List ci_c) (q : Nat × Int) : Bool := match en_K q.1, C[cv_p q.1 q.2]? with
  | .inl (c, fs), some (.inl (c', vs)) => Nat.beq c c' && cv_fs fs vs
  | .inr (ty, n, t), some (.inr (ty', n', k, xs)) => (Nat.beq ty ty' && Nat.beq n n') && (bif Nat.beq ty 4 then Nat.beq (cv_b t) k && Nat.blt 0 (en_len t) else Nat.blt ty 4 && cv_a q.1 q.2 ty n xs)
  | _, _ => false
set_option maxRecDepth 100000 in
set_option maxHeartbeats 4000000 in
theorem cv_all : en_C.all (cv_q ci_12) = true := by decide +kernel
set_option maxRecDepth 100000 in
set_option maxHeartbeats 4000000 in
theorem cv_nd : (en_C.map (fun q => cv_p q.1 q.2)).Nodup := by decide +kernel
theorem cv_fs_ok {sz : Nat} : ∀ {fs : List (Nat × Nat × Nat)} {vs : List (Option en_v)}, cv_fs fs vs = true → vs.map (ci_vl sz) = fs.map (en_fv (cv_ad sz) cv_s)
  | [], [], _ => rfl
  | [], _ :: _, h => by cases h
  | _ :: _, [], h => by cases h
  | f :: r, o :: t, h => by
    have h : (cv_f f o && cv_fs r t) = true := h
    simp only [Bool.and_eq_true] at h
    rw [List.map_cons, List.map_cons, cv_fs_ok h.2]
    congr 1
    have g := h.1
    unfold cv_f at g
    split at g
    · rw [← of_decide_eq_true g]; rfl
    · rw [← of_decide_eq_true g]; rfl
    · rw [← of_decide_eq_true g]; rfl
    · show Value.ref (sz + _) = Value.ref (sz + _)
      rw [Nat.eq_of_beq_eq_true g]
    · show Value.ref (sz + _) = Value.ref (sz + _)
      rw [Nat.eq_of_beq_eq_true g]
    · show Value.ref (sz + _) = Value.ref (sz + _)
      rw [Nat.eq_of_beq_eq_true g]
    · cases g
theorem cv_z {r : Nat} (h : cv_look r cv_g = none) : cv_s r = fun _ => 0 := by
  unfold cv_s
  rw [h]
theorem cv_fi0 (n : Nat) (b : Int) : en_fi n (fun _ => 0) b = fun _ => 0 := by
  funext j
  unfold en_fi
  split <;> rfl
theorem cv_fl0 (n : Nat) (b : Int) : en_fl n (fun _ => 0) b = fun _ => 0 := by
  funext j
  unfold en_fl
  split <;> rfl
theorem cv_en {q : Nat × Int} (hq : cv_q ci_12 q = true) (sz : Nat) (cA : Nat → ClassId) : ∃ x : ci_c, ci_12[cv_p q.1 q.2]? = some x ∧ ci_en sz cA x = en_en (cv_ad sz) cA cv_s q := by
  unfold cv_q at hq
  split at hq
  · rename_i c fs c' vs hk hx
    simp only [Bool.and_eq_true] at hq
    refine ⟨_, hx, ?_⟩
    unfold en_en
    rw [hk]
    show (Sum.inr (c', vs.map (ci_vl sz)) : va_E) = .inr (c, fs.map (en_fv (cv_ad sz) cv_s))
    rw [Nat.eq_of_beq_eq_true hq.1, cv_fs_ok hq.2]
  · rename_i ty n t ty' n' k xs hk hx
    simp only [Bool.and_eq_true] at hq
    obtain ⟨⟨e1, e2⟩, hr⟩ := hq
    have e1 := Nat.eq_of_beq_eq_true e1
    have e2 := Nat.eq_of_beq_eq_true e2
    subst e1 e2
    refine ⟨_, hx, ?_⟩
    unfold en_en
    rw [hk]
    cases h4 : Nat.beq ty 4 with
    | true =>
      rw [h4] at hr
      simp only [cond_true, Bool.and_eq_true] at hr
      have e4 := Nat.eq_of_beq_eq_true h4
      subst e4
      have hb := Nat.eq_of_beq_eq_true hr.1
      have hp := Nat.le_of_ble_eq_true hr.2
      show (Sum.inl (cA 4, n, Sum.inr (Sum.inr (Sum.inr (Sum.inr fun j => some (sz + k + j))))) : va_E) = .inl (cA 4, n, .inr (.inr (.inr (.inr fun j => some (cv_ad sz t (j * en_len t))))))
      congr 7
      funext j
      congr 1
      show sz + k + j = sz + (cv_b t + ((j : Int) * (en_len t : Int) / (en_len t : Int)).toNat)
      rw [Int.mul_ediv_cancel _ (by omega), hb]
      omega
    | false =>
      rw [h4] at hr
      simp only [cond_false, Bool.and_eq_true] at hr
      obtain ⟨hlt, ha⟩ := hr
      have hlt := Nat.le_of_ble_eq_true hlt
      unfold cv_a at ha
      split at ha
      · rename_i ys hl
        simp only [Bool.and_eq_true, decide_eq_true_eq] at ha
        obtain ⟨h0, hb0, hxs, hn⟩ := ha
        have h0 := Nat.eq_of_beq_eq_true h0
        subst h0 hxs
        have hn := Nat.le_of_ble_eq_true hn
        show (Sum.inl (cA 0, n, Sum.inl fun j => Int32.ofInt (xs.getD j 0)) : va_E) = .inl (cA 0, n, .inl (en_fi n (cv_s q.1) q.2))
        congr 3
        congr 1
        funext j
        unfold en_fi cv_s
        rw [hl, hb0]
        dsimp only
        split
        · rw [show ((0 : Int) + (j : Int)).toNat = j by omega]
        · rw [List.getD_eq_getElem?_getD, List.getElem?_eq_none (by omega)]
          rfl
      · rename_i hl
        rw [cv_z hl]
        have e0 : (fun j : Nat => Int32.ofInt (xs.getD j 0)) = fun _ => 0 := by
          funext j
          rw [List.getD_eq_getElem?_getD]
          cases hv : xs[j]? with
          | none => rfl
          | some v =>
            have := of_decide_eq_true (List.all_eq_true.mp ha v (List.mem_of_getElem? hv))
            subst this
            rfl
        match ty, hlt with
        | 0, _ =>
          show (Sum.inl (cA 0, n, Sum.inl fun j => Int32.ofInt (xs.getD j 0)) : va_E) = .inl (cA 0, n, .inl (en_fi n (fun _ => 0) q.2))
          rw [e0, cv_fi0]
        | 1, _ =>
          show (Sum.inl (cA 1, n, Sum.inl fun _ => 0) : va_E) = .inl (cA 1, n, .inl (en_fi n (fun _ => 0) q.2))
          rw [cv_fi0]
        | 2, _ =>
          show (Sum.inl (cA 2, n, Sum.inl fun _ => 0) : va_E) = .inl (cA 2, n, .inl (en_fi n (fun _ => 0) q.2))
          rw [cv_fi0]
        | 3, _ =>
          show (Sum.inl (cA 3, n, Sum.inr (Sum.inl fun _ => 0)) : va_E) = .inl (cA 3, n, .inr (.inl (en_fl n (fun _ => 0) q.2)))
          rw [cv_fl0]
  · cases hq
theorem cv_ndi : ∀ (l : List Nat), l.Nodup → ∀ (i j a : Nat), l[i]? = some a → l[j]? = some a → i = j
  | [], _, _, _, _, h, _ => by cases h
  | x :: l, hn, i, j, a, h1, h2 => by
    obtain ⟨g1, g2⟩ := List.nodup_cons.mp hn
    cases i with
    | zero =>
      cases j with
      | zero => rfl
      | succ j => cases h1; exact absurd (List.mem_of_getElem? (show l[j]? = some x from h2)) g1
    | succ i =>
      cases j with
      | zero => cases h2; exact absurd (List.mem_of_getElem? (show l[i]? = some x from h1)) g1
      | succ j => rw [cv_ndi l g2 i j a h1 h2]
theorem cv_at {sz : Nat} {cA : Nat → ClassId} {k : Nat} {w : Nat × va_E} (h : (en_W (cv_ad sz) cA cv_s)[k]? = some w) : (ci_W sz cA ci_12)[((en_C.map (fun q => cv_p q.1 q.2))[k]?).getD 0]? = some w := by
  unfold en_W at h
  rw [List.getElem?_map] at h
  cases hq : en_C[k]? with
  | none => rw [hq] at h; cases h
  | some q =>
    rw [hq] at h
    cases h
    rw [List.getElem?_map, hq]
    obtain ⟨x, h1, h2⟩ := cv_en (List.all_eq_true.mp cv_all q (List.mem_of_getElem? hq)) sz cA
    show (ci_W sz cA ci_12)[cv_p q.1 q.2]? = _
    rw [ci_W_at h1, h2]
    rfl
theorem cv_P {D : va_G} {sz : Nat} {cA : Nat → ClassId} {H : Heap} (h : va_P D classes (ci_W sz cA ci_12) H) : va_P D classes (en_W (cv_ad sz) cA cv_s) H := h.by _ (fun _ _ hk => cv_at hk)
theorem cv_D (sz : Nat) (cA : Nat → ClassId) (σ : en_m) : va_D (fun q => sz ≤ q) (en_W (cv_ad sz) cA σ) := by
  refine lw_D (σ := cv_s) ((ci_D_ok sz cA ci_12).by _ (fun _ _ hk => cv_at hk) (fun i j hi hj e => ?_))
  have hl : ∀ i, i < (en_W (cv_ad sz) cA cv_s).length → ∃ p, (en_C.map (fun q => cv_p q.1 q.2))[i]? = some p := fun i hi => by
    unfold en_W at hi
    rw [List.length_map] at hi
    exact ⟨_, List.getElem?_eq_getElem (by rw [List.length_map]; exact hi)⟩
  obtain ⟨p1, h1⟩ := hl i hi
  obtain ⟨p2, h2⟩ := hl j hj
  rw [h1, h2] at e
  have e : p1 = p2 := e
  subst e
  exact cv_ndi _ cv_nd i j _ h1 h2
