/-! ROWS of the engine: from the end of a run back to its beginning -/
def en_lef (f g : en_f) : Prop := ∀ (c : en_c) (pc : Nat) (ls : en_l) (st : List en_v) (σ : en_m) (x : Option en_v × en_m), f c pc ls st σ = some x → g c pc ls st σ = some x
theorem en_by_mono {f g : en_f} (H : en_lef f g) (q : en_q) (c : en_c) (pc : Nat) (ls : en_l) (st : List en_v) (σ : en_m) (x : Option en_v × en_m) (h : en_by f q c pc ls st σ = some x) : en_by g q c pc ls st σ = some x := by
  have step : ∀ y : Option en_x, en_go f c y = some x → en_go g c y = some x := by
    intro y hy
    cases y with
    | none => cases hy
    | some z => exact H _ _ _ _ _ _ hy
  have call : ∀ y, en_cl f q c pc ls σ y = some x → en_cl g q c pc ls σ y = some x := by
    intro y hy
    cases y with
    | none => cases hy
    | some z =>
      obtain ⟨as, r⟩ := z
      unfold en_cl at hy ⊢
      dsimp only at hy ⊢
      cases hb : (Nat.ble (en_sum r) 8 && Nat.ble (en_sum as) (en_D q.2.2.2.1).2.2.1) with
      | false => rw [hb] at hy; cases hy
      | true =>
        rw [hb] at hy
        dsimp only [cond_true] at hy ⊢
        cases hbi : en_bi q.2.2.2.1 as with
        | some v => rw [hbi] at hy; exact H _ _ _ _ _ _ hy
        | none =>
          rw [hbi] at hy
          dsimp only at hy ⊢
          cases he : f (en_T q.2.2.2.1) 0 (en_ent q.2.2.2.1 as) [] σ with
          | none => rw [he] at hy; cases hy
          | some w =>
            rw [he] at hy
            rw [H _ _ _ _ _ _ he]
            exact H _ _ _ _ _ _ hy
  unfold en_by at h ⊢
  generalize q.2.1 = i at h ⊢
  cases i <;> first
    | exact step _ h
    | exact call _ h
    | exact h
    | skip
  · revert h
    dsimp only
    cases Nat.ble 100 q.2.2.2.2.1
    · exact call _
    · exact step _
theorem en_mono : ∀ (n : Nat), en_lef (en_ev n) (en_ev (n + 1)) := by
  intro n
  induction n with
  | zero => intro c pc ls st σ x h; cases h
  | succ n ih =>
    intro c pc ls st σ x h
    cases hq : en_at c pc with
    | none =>
      exfalso
      have : en_ev (n + 1) c pc ls st σ = none := by
        show (match en_at c pc with | none => none | some q => en_by (en_ev n) q c pc ls st σ) = _
        rw [hq]
      rw [this] at h
      cases h
    | some q =>
      rw [en_ev_s _ hq] at h ⊢
      exact en_by_mono ih _ _ _ _ _ _ _ h
theorem en_monole {n m : Nat} (h : n ≤ m) {c : en_c} {pc : Nat} {ls : en_l} {st : List en_v} {σ : en_m} {x : Option en_v × en_m} (e : en_ev n c pc ls st σ = some x) : en_ev m c pc ls st σ = some x := by
  induction h with
  | refl => exact e
  | step _ ih => exact en_mono _ _ _ _ _ _ _ ih
def en_wp (c : en_c) (pc : Nat) (ls : en_l) (st : List en_v) (σ : en_m) (Q : Option en_v → en_m → Prop) : Prop := ∃ (n : Nat) (r : Option en_v) (σ' : en_m), en_ev n c pc ls st σ = some (r, σ') ∧ Q r σ'
/-- a method, called -/
def en_ct (z : Nat) (as : List en_v) (σ : en_m) (Q : Option en_v → en_m → Prop) : Prop := en_wp (en_T z) 0 (en_ent z as) [] σ Q
abbrev i32 (z : Int) : Prop := -2147483648 ≤ z ∧ z ≤ 2147483647
abbrev i64 (z : Int) : Prop := -9223372036854775808 ≤ z ∧ z ≤ 9223372036854775807
theorem w32_of {z : Int} (h : i32 z) : w32 z = z := by
  obtain ⟨h1, h2⟩ := h
  unfold w32
  rw [Int.bmod_def]
  split <;> omega
theorem w64_of {z : Int} (h : i64 z) : w64 z = z := by
  obtain ⟨h1, h2⟩ := h
  unfold w64
  rw [Int.bmod_def]
  split <;> omega
def bI (P : Prop) [Decidable P] : Int := if P then 1 else 0
theorem bI_t {P : Prop} [Decidable P] (h : P) : bI P = 1 := if_pos h
theorem bI_f {P : Prop} [Decidable P] (h : ¬ P) : bI P = 0 := if_neg h
theorem bI_01 (P : Prop) [Decidable P] : bI P = 0 ∨ bI P = 1 := by
  unfold bI; split
  · exact Or.inr rfl
  · exact Or.inl rfl
section ENR
variable {c : en_c} {pc : Nat} {ls : en_l} {st : List en_v} {σ : en_m} {Q : Option en_v → en_m → Prop}
theorem wp_mono {Q' : Option en_v → en_m → Prop} (h : en_wp c pc ls st σ Q) (k : ∀ r σ', Q r σ' → Q' r σ') : en_wp c pc ls st σ Q' := by
  obtain ⟨n, r, σ', h1, h2⟩ := h
  exact ⟨n, r, σ', h1, k r σ' h2⟩
theorem wp_st {q : en_q} {x : en_x} (hq : en_at c pc = some q) (h : en_st q ls st σ = some x) (K : en_wp c x.1 x.2.1 x.2.2.1 x.2.2.2 Q) : en_wp c pc ls st σ Q := by
  obtain ⟨n, r, σ', h1, h2⟩ := K
  exact ⟨n + 1, r, σ', by rw [en_s_ret h hq]; exact h1, h2⟩
theorem wp_run (k : Nat) {pc' : Nat} {ls' : en_l} {st' : List en_v} {σ' : en_m} (h : en_run k c pc ls st σ = some (pc', ls', st', σ')) (K : en_wp c pc' ls' st' σ' Q) : en_wp c pc ls st σ Q := by
  induction k generalizing pc ls st σ with
  | zero => cases h; exact K
  | succ k ih =>
    rw [en_run] at h
    cases hq : en_at c pc with
    | none => rw [hq] at h; cases h
    | some q =>
      rw [hq] at h
      dsimp only at h
      cases hs : en_st q ls st σ with
      | none => rw [hs] at h; cases h
      | some x =>
        rw [hs] at h
        exact wp_st hq hs (ih h)
theorem wp_eq {ls' : en_l} {st' : List en_v} {σ' : en_m} (hl : ls = ls') (hs : st = st') (hm : σ = σ') (K : en_wp c pc ls' st' σ' Q) : en_wp c pc ls st σ Q := by
  subst hl; subst hs; subst hm; exact K
theorem wp_top {u v : Int} (h : u = v) (K : en_wp c pc ls (.inl v :: st) σ Q) : en_wp c pc ls (.inl u :: st) σ Q := h ▸ K
theorem wp_topl {u v : Int} (h : u = v) (K : en_wp c pc ls (.inr (.inl v) :: st) σ Q) : en_wp c pc ls (.inr (.inl u) :: st) σ Q := h ▸ K
variable {p0 len a b j : Nat} {x : Int} {off : Int}
theorem wp_ic_lt {u v : Int} (hq : en_at c pc = some (p0, .if_icmp .lt off, len, a, b, j, x)) (hu : i32 u) (hv : i32 v) (kt : u < v → en_wp c a ls st σ Q) (kf : ¬ u < v → en_wp c (p0 + len) ls st σ Q) : en_wp c pc ls (.inl v :: .inl u :: st) σ Q := by
  by_cases h : u < v
  · exact wp_st hq (x := (a, ls, st, σ)) (by simp [en_st, en_cmp, w32_of hu, w32_of hv, h]) (kt h)
  · exact wp_st hq (x := (p0 + len, ls, st, σ)) (by simp [en_st, en_cmp, w32_of hu, w32_of hv, h]) (kf h)
theorem wp_ic_ge {u v : Int} (hq : en_at c pc = some (p0, .if_icmp .ge off, len, a, b, j, x)) (hu : i32 u) (hv : i32 v) (kt : v ≤ u → en_wp c a ls st σ Q) (kf : u < v → en_wp c (p0 + len) ls st σ Q) : en_wp c pc ls (.inl v :: .inl u :: st) σ Q := by
  by_cases h : u < v
  · exact wp_st hq (x := (p0 + len, ls, st, σ)) (by simp [en_st, en_cmp, w32_of hu, w32_of hv, h]) (kf h)
  · exact wp_st hq (x := (a, ls, st, σ)) (by simp [en_st, en_cmp, w32_of hu, w32_of hv, h]) (kt (by omega))
theorem wp_ic_gt {u v : Int} (hq : en_at c pc = some (p0, .if_icmp .gt off, len, a, b, j, x)) (hu : i32 u) (hv : i32 v) (kt : v < u → en_wp c a ls st σ Q) (kf : u ≤ v → en_wp c (p0 + len) ls st σ Q) : en_wp c pc ls (.inl v :: .inl u :: st) σ Q := by
  by_cases h : v < u
  · exact wp_st hq (x := (a, ls, st, σ)) (by simp [en_st, en_cmp, w32_of hu, w32_of hv, h]) (kt h)
  · exact wp_st hq (x := (p0 + len, ls, st, σ)) (by simp [en_st, en_cmp, w32_of hu, w32_of hv, h]) (kf (by omega))
theorem wp_ic_le {u v : Int} (hq : en_at c pc = some (p0, .if_icmp .le off, len, a, b, j, x)) (hu : i32 u) (hv : i32 v) (kt : u ≤ v → en_wp c a ls st σ Q) (kf : v < u → en_wp c (p0 + len) ls st σ Q) : en_wp c pc ls (.inl v :: .inl u :: st) σ Q := by
  by_cases h : v < u
  · exact wp_st hq (x := (p0 + len, ls, st, σ)) (by simp [en_st, en_cmp, w32_of hu, w32_of hv, h]) (kf h)
  · exact wp_st hq (x := (a, ls, st, σ)) (by simp [en_st, en_cmp, w32_of hu, w32_of hv, h]) (kt (by omega))
theorem wp_ic_eq {u v : Int} (hq : en_at c pc = some (p0, .if_icmp .eq off, len, a, b, j, x)) (hu : i32 u) (hv : i32 v) (kt : u = v → en_wp c a ls st σ Q) (kf : ¬ u = v → en_wp c (p0 + len) ls st σ Q) : en_wp c pc ls (.inl v :: .inl u :: st) σ Q := by
  by_cases h : u = v
  · exact wp_st hq (x := (a, ls, st, σ)) (by simp [en_st, en_cmp, w32_of hu, w32_of hv, h]) (kt h)
  · exact wp_st hq (x := (p0 + len, ls, st, σ)) (by simp [en_st, en_cmp, w32_of hu, w32_of hv, h]) (kf h)
theorem wp_ic_ne {u v : Int} (hq : en_at c pc = some (p0, .if_icmp .ne off, len, a, b, j, x)) (hu : i32 u) (hv : i32 v) (kt : ¬ u = v → en_wp c a ls st σ Q) (kf : u = v → en_wp c (p0 + len) ls st σ Q) : en_wp c pc ls (.inl v :: .inl u :: st) σ Q := by
  by_cases h : u = v
  · exact wp_st hq (x := (p0 + len, ls, st, σ)) (by simp [en_st, en_cmp, w32_of hu, w32_of hv, h]) (kf h)
  · exact wp_st hq (x := (a, ls, st, σ)) (by simp [en_st, en_cmp, w32_of hu, w32_of hv, h]) (kt h)
theorem wp_if_lt {u : Int} (hq : en_at c pc = some (p0, .ifCond .lt off, len, a, b, j, x)) (hu : i32 u) (kt : u < 0 → en_wp c a ls st σ Q) (kf : 0 ≤ u → en_wp c (p0 + len) ls st σ Q) : en_wp c pc ls (.inl u :: st) σ Q := by
  by_cases h : u < 0
  · exact wp_st hq (x := (a, ls, st, σ)) (by have e := w32_of hu; simp only [en_st, en_cmp, e]; simp [h]) (kt h)
  · exact wp_st hq (x := (p0 + len, ls, st, σ)) (by have e := w32_of hu; simp only [en_st, en_cmp, e]; simp [h]) (kf (by omega))
theorem wp_if_ge {u : Int} (hq : en_at c pc = some (p0, .ifCond .ge off, len, a, b, j, x)) (hu : i32 u) (kt : 0 ≤ u → en_wp c a ls st σ Q) (kf : u < 0 → en_wp c (p0 + len) ls st σ Q) : en_wp c pc ls (.inl u :: st) σ Q := by
  by_cases h : u < 0
  · exact wp_st hq (x := (p0 + len, ls, st, σ)) (by have e := w32_of hu; simp only [en_st, en_cmp, e]; simp [h]) (kf h)
  · exact wp_st hq (x := (a, ls, st, σ)) (by have e := w32_of hu; simp only [en_st, en_cmp, e]; simp [h]) (kt (by omega))
theorem wp_if_gt {u : Int} (hq : en_at c pc = some (p0, .ifCond .gt off, len, a, b, j, x)) (hu : i32 u) (kt : 0 < u → en_wp c a ls st σ Q) (kf : u ≤ 0 → en_wp c (p0 + len) ls st σ Q) : en_wp c pc ls (.inl u :: st) σ Q := by
  by_cases h : 0 < u
  · exact wp_st hq (x := (a, ls, st, σ)) (by have e := w32_of hu; simp only [en_st, en_cmp, e]; simp [h]) (kt h)
  · exact wp_st hq (x := (p0 + len, ls, st, σ)) (by have e := w32_of hu; simp only [en_st, en_cmp, e]; simp [h]) (kf (by omega))
theorem wp_if_le {u : Int} (hq : en_at c pc = some (p0, .ifCond .le off, len, a, b, j, x)) (hu : i32 u) (kt : u ≤ 0 → en_wp c a ls st σ Q) (kf : 0 < u → en_wp c (p0 + len) ls st σ Q) : en_wp c pc ls (.inl u :: st) σ Q := by
  by_cases h : 0 < u
  · exact wp_st hq (x := (p0 + len, ls, st, σ)) (by have e := w32_of hu; simp only [en_st, en_cmp, e]; simp [h]) (kf h)
  · exact wp_st hq (x := (a, ls, st, σ)) (by have e := w32_of hu; simp only [en_st, en_cmp, e]; simp [h]) (kt (by omega))
theorem wp_if_eq {u : Int} (hq : en_at c pc = some (p0, .ifCond .eq off, len, a, b, j, x)) (hu : i32 u) (kt : u = 0 → en_wp c a ls st σ Q) (kf : ¬ u = 0 → en_wp c (p0 + len) ls st σ Q) : en_wp c pc ls (.inl u :: st) σ Q := by
  by_cases h : u = 0
  · exact wp_st hq (x := (a, ls, st, σ)) (by have e := w32_of hu; simp only [en_st, en_cmp, e]; simp [h]) (kt h)
  · exact wp_st hq (x := (p0 + len, ls, st, σ)) (by have e := w32_of hu; simp only [en_st, en_cmp, e]; simp [h]) (kf h)
theorem wp_if_ne {u : Int} (hq : en_at c pc = some (p0, .ifCond .ne off, len, a, b, j, x)) (hu : i32 u) (kt : ¬ u = 0 → en_wp c a ls st σ Q) (kf : u = 0 → en_wp c (p0 + len) ls st σ Q) : en_wp c pc ls (.inl u :: st) σ Q := by
  by_cases h : u = 0
  · exact wp_st hq (x := (p0 + len, ls, st, σ)) (by have e := w32_of hu; simp only [en_st, en_cmp, e]; simp [h]) (kf h)
  · exact wp_st hq (x := (a, ls, st, σ)) (by have e := w32_of hu; simp only [en_st, en_cmp, e]; simp [h]) (kt h)
theorem i32_01 {z : Int} (h : z = 0 ∨ z = 1) : i32 z := by
  rcases h with rfl | rfl <;> exact ⟨by decide, by decide⟩
/-- a truth value asked -/
theorem wp_if_eqb {P : Prop} [Decidable P] (hq : en_at c pc = some (p0, .ifCond .eq off, len, a, b, j, x)) (kt : ¬ P → en_wp c a ls st σ Q) (kf : P → en_wp c (p0 + len) ls st σ Q) : en_wp c pc ls (.inl (bI P) :: st) σ Q :=
  wp_if_eq hq (i32_01 (bI_01 P)) (fun h => kt (fun hp => by rw [bI_t hp] at h; cases h)) (fun h => kf (Decidable.byContradiction fun hp => h (bI_f hp)))
theorem wp_if_neb {P : Prop} [Decidable P] (hq : en_at c pc = some (p0, .ifCond .ne off, len, a, b, j, x)) (kt : P → en_wp c a ls st σ Q) (kf : ¬ P → en_wp c (p0 + len) ls st σ Q) : en_wp c pc ls (.inl (bI P) :: st) σ Q :=
  wp_if_ne hq (i32_01 (bI_01 P)) (fun h => kt (Decidable.byContradiction fun hp => h (bI_f hp))) (fun h => kf (fun hp => by rw [bI_t hp] at h; cases h))
theorem i32_ix {j : Int} {n : Nat} (h : 0 ≤ j ∧ j < n) (hn : Nat.ble n 2147483647 = true) : w32 j = j := w32_of ⟨by omega, by have := Nat.le_of_ble_eq_true hn; omega⟩
variable {k n t : Nat} {o : Int}
theorem wp_iald {i : Int} (hq : en_at c pc = some (p0, .iaload, len, a, b, j, x)) (hk : en_K k = .inr (0, n, t)) (hi : 0 ≤ i ∧ i < n) (K : en_wp c (p0 + len) ls (.inl (σ k (o + i)) :: st) σ Q) (hn : Nat.ble n 2147483647 = true := by rfl) : en_wp c pc ls (.inl i :: .inr (.inr (k, o)) :: st) σ Q :=
  wp_st hq (x := (p0 + len, ls, .inl (σ k (o + i)) :: st, σ)) (by simp [en_st, hk, i32_ix hi hn, hi]) K
theorem wp_iald0 {i : Int} (hq : en_at c pc = some (p0, .iaload, len, a, b, j, x)) (hk : en_K k = .inr (0, n, t)) (hi : 0 ≤ i ∧ i < n) (K : en_wp c (p0 + len) ls (.inl (σ k i) :: st) σ Q) (hn : Nat.ble n 2147483647 = true := by rfl) : en_wp c pc ls (.inl i :: .inr (.inr (k, 0)) :: st) σ Q :=
  wp_iald hq hk hi (by rw [Int.zero_add]; exact K) hn
theorem wp_bald {i : Int} (hq : en_at c pc = some (p0, .baload, len, a, b, j, x)) (hk : en_K k = .inr (1, n, t) ∨ en_K k = .inr (2, n, t)) (hi : 0 ≤ i ∧ i < n) (K : en_wp c (p0 + len) ls (.inl (σ k (o + i)) :: st) σ Q) (hn : Nat.ble n 2147483647 = true := by rfl) : en_wp c pc ls (.inl i :: .inr (.inr (k, o)) :: st) σ Q := by
  rcases hk with hk | hk <;> exact wp_st hq (x := (p0 + len, ls, .inl (σ k (o + i)) :: st, σ)) (by simp [en_st, hk, i32_ix hi hn, hi]) K
theorem wp_bald0 {i : Int} (hq : en_at c pc = some (p0, .baload, len, a, b, j, x)) (hk : en_K k = .inr (1, n, t) ∨ en_K k = .inr (2, n, t)) (hi : 0 ≤ i ∧ i < n) (K : en_wp c (p0 + len) ls (.inl (σ k i) :: st) σ Q) (hn : Nat.ble n 2147483647 = true := by rfl) : en_wp c pc ls (.inl i :: .inr (.inr (k, 0)) :: st) σ Q :=
  wp_bald hq hk hi (by rw [Int.zero_add]; exact K) hn
theorem wp_lald {i : Int} (hq : en_at c pc = some (p0, .laload, len, a, b, j, x)) (hk : en_K k = .inr (3, n, t)) (hi : 0 ≤ i ∧ i < n) (K : en_wp c (p0 + len) ls (.inr (.inl (σ k (o + i))) :: st) σ Q) (hn : Nat.ble n 2147483647 = true := by rfl) : en_wp c pc ls (.inl i :: .inr (.inr (k, o)) :: st) σ Q :=
  wp_st hq (x := (p0 + len, ls, .inr (.inl (σ k (o + i))) :: st, σ)) (by simp [en_st, hk, i32_ix hi hn, hi]) K
theorem wp_lald0 {i : Int} (hq : en_at c pc = some (p0, .laload, len, a, b, j, x)) (hk : en_K k = .inr (3, n, t)) (hi : 0 ≤ i ∧ i < n) (K : en_wp c (p0 + len) ls (.inr (.inl (σ k i)) :: st) σ Q) (hn : Nat.ble n 2147483647 = true := by rfl) : en_wp c pc ls (.inl i :: .inr (.inr (k, 0)) :: st) σ Q :=
  wp_lald hq hk hi (by rw [Int.zero_add]; exact K) hn
theorem wp_aald {i : Int} {m : Nat} (hq : en_at c pc = some (p0, .aaload, len, a, b, j, x)) (hk : en_K k = .inr (4, n, t)) (hm : en_len t = m) (hi : 0 ≤ i ∧ i < n) (K : en_wp c (p0 + len) ls (.inr (.inr (t, i * m)) :: st) σ Q) (hn : Nat.ble n 2147483647 = true := by rfl) : en_wp c pc ls (.inl i :: .inr (.inr (k, o)) :: st) σ Q :=
  wp_st hq (x := (p0 + len, ls, .inr (.inr (t, i * m)) :: st, σ)) (by simp [en_st, hk, i32_ix hi hn, hi, hm]) K
theorem wp_iast {i v : Int} (hq : en_at c pc = some (p0, .iastore, len, a, b, j, x)) (hk : en_K k = .inr (0, n, t)) (hi : 0 ≤ i ∧ i < n) (K : en_wp c (p0 + len) ls st (sr σ k (up (σ k) (o + i) v)) Q) (hn : Nat.ble n 2147483647 = true := by rfl) : en_wp c pc ls (.inl v :: .inl i :: .inr (.inr (k, o)) :: st) σ Q :=
  wp_st hq (x := (p0 + len, ls, st, sr σ k (up (σ k) (o + i) v))) (by simp [en_st, hk, i32_ix hi hn, hi]) K
theorem wp_iast0 {i v : Int} (hq : en_at c pc = some (p0, .iastore, len, a, b, j, x)) (hk : en_K k = .inr (0, n, t)) (hi : 0 ≤ i ∧ i < n) (K : en_wp c (p0 + len) ls st (sr σ k (up (σ k) i v)) Q) (hn : Nat.ble n 2147483647 = true := by rfl) : en_wp c pc ls (.inl v :: .inl i :: .inr (.inr (k, 0)) :: st) σ Q :=
  wp_iast hq hk hi (by rw [Int.zero_add]; exact K) hn
theorem wp_bast {i v : Int} (hq : en_at c pc = some (p0, .bastore, len, a, b, j, x)) (hk : en_K k = .inr (1, n, t)) (hi : 0 ≤ i ∧ i < n) (hv : -128 ≤ v ∧ v < 128) (K : en_wp c (p0 + len) ls st (sr σ k (up (σ k) (o + i) v)) Q) (hn : Nat.ble n 2147483647 = true := by rfl) : en_wp c pc ls (.inl v :: .inl i :: .inr (.inr (k, o)) :: st) σ Q :=
  wp_st hq (x := (p0 + len, ls, st, sr σ k (up (σ k) (o + i) v))) (by simp [en_st, hk, i32_ix hi hn, hi, hv]) K
theorem wp_bast0 {i v : Int} (hq : en_at c pc = some (p0, .bastore, len, a, b, j, x)) (hk : en_K k = .inr (1, n, t)) (hi : 0 ≤ i ∧ i < n) (hv : -128 ≤ v ∧ v < 128) (K : en_wp c (p0 + len) ls st (sr σ k (up (σ k) i v)) Q) (hn : Nat.ble n 2147483647 = true := by rfl) : en_wp c pc ls (.inl v :: .inl i :: .inr (.inr (k, 0)) :: st) σ Q :=
  wp_bast hq hk hi hv (by rw [Int.zero_add]; exact K) hn
theorem wp_zast {i v : Int} (hq : en_at c pc = some (p0, .bastore, len, a, b, j, x)) (hk : en_K k = .inr (2, n, t)) (hi : 0 ≤ i ∧ i < n) (hv : v = 0 ∨ v = 1) (K : en_wp c (p0 + len) ls st (sr σ k (up (σ k) (o + i) v)) Q) (hn : Nat.ble n 2147483647 = true := by rfl) : en_wp c pc ls (.inl v :: .inl i :: .inr (.inr (k, o)) :: st) σ Q :=
  wp_st hq (x := (p0 + len, ls, st, sr σ k (up (σ k) (o + i) v))) (by simp [en_st, hk, i32_ix hi hn, hi, hv]) K
theorem wp_zast0 {i v : Int} (hq : en_at c pc = some (p0, .bastore, len, a, b, j, x)) (hk : en_K k = .inr (2, n, t)) (hi : 0 ≤ i ∧ i < n) (hv : v = 0 ∨ v = 1) (K : en_wp c (p0 + len) ls st (sr σ k (up (σ k) i v)) Q) (hn : Nat.ble n 2147483647 = true := by rfl) : en_wp c pc ls (.inl v :: .inl i :: .inr (.inr (k, 0)) :: st) σ Q :=
  wp_zast hq hk hi hv (by rw [Int.zero_add]; exact K) hn
theorem wp_last {i v : Int} (hq : en_at c pc = some (p0, .lastore, len, a, b, j, x)) (hk : en_K k = .inr (3, n, t)) (hi : 0 ≤ i ∧ i < n) (K : en_wp c (p0 + len) ls st (sr σ k (up (σ k) (o + i) v)) Q) (hn : Nat.ble n 2147483647 = true := by rfl) : en_wp c pc ls (.inr (.inl v) :: .inl i :: .inr (.inr (k, o)) :: st) σ Q :=
  wp_st hq (x := (p0 + len, ls, st, sr σ k (up (σ k) (o + i) v))) (by simp [en_st, hk, i32_ix hi hn, hi]) K
theorem wp_last0 {i v : Int} (hq : en_at c pc = some (p0, .lastore, len, a, b, j, x)) (hk : en_K k = .inr (3, n, t)) (hi : 0 ≤ i ∧ i < n) (K : en_wp c (p0 + len) ls st (sr σ k (up (σ k) i v)) Q) (hn : Nat.ble n 2147483647 = true := by rfl) : en_wp c pc ls (.inr (.inl v) :: .inl i :: .inr (.inr (k, 0)) :: st) σ Q :=
  wp_last hq hk hi (by rw [Int.zero_add]; exact K) hn
theorem wp_irem {u v : Int} (hq : en_at c pc = some (p0, .irem, len, a, b, j, x)) (hu : i32 u) (hv : i32 v) (h0 : ¬ v = 0) (K : en_wp c (p0 + len) ls (.inl (u.tmod v) :: st) σ Q) : en_wp c pc ls (.inl v :: .inl u :: st) σ Q :=
  wp_st hq (x := (p0 + len, ls, .inl (u.tmod v) :: st, σ)) (by simp [en_st, w32_of hu, w32_of hv, h0]) K
theorem wp_idiv {u v : Int} (hq : en_at c pc = some (p0, .idiv, len, a, b, j, x)) (hu : i32 u) (hv : i32 v) (h0 : ¬ v = 0) (K : en_wp c (p0 + len) ls (.inl (u.tdiv v) :: st) σ Q) : en_wp c pc ls (.inl v :: .inl u :: st) σ Q :=
  wp_st hq (x := (p0 + len, ls, .inl (u.tdiv v) :: st, σ)) (by simp [en_st, w32_of hu, w32_of hv, h0]) K
theorem wp_iremp {u v : Int} (hq : en_at c pc = some (p0, .irem, len, a, b, j, x)) (hu : 0 ≤ u ∧ u ≤ 2147483647) (hv : 0 < v ∧ v ≤ 2147483647) (K : en_wp c (p0 + len) ls (.inl (u % v) :: st) σ Q) : en_wp c pc ls (.inl v :: .inl u :: st) σ Q :=
  wp_irem hq ⟨by omega, hu.2⟩ ⟨by omega, hv.2⟩ (by omega) (by rw [Int.tmod_eq_emod_of_nonneg hu.1]; exact K)
theorem wp_idivp {u v : Int} (hq : en_at c pc = some (p0, .idiv, len, a, b, j, x)) (hu : 0 ≤ u ∧ u ≤ 2147483647) (hv : 0 < v ∧ v ≤ 2147483647) (K : en_wp c (p0 + len) ls (.inl (u / v) :: st) σ Q) : en_wp c pc ls (.inl v :: .inl u :: st) σ Q :=
  wp_idiv hq ⟨by omega, hu.2⟩ ⟨by omega, hv.2⟩ (by omega) (by rw [Int.tdiv_eq_ediv_of_nonneg hu.1]; exact K)
theorem wp_lrem {u v : Int} (hq : en_at c pc = some (p0, .lrem, len, a, b, j, x)) (hu : i64 u) (hv : i64 v) (h0 : ¬ v = 0) (K : en_wp c (p0 + len) ls (.inr (.inl (u.tmod v)) :: st) σ Q) : en_wp c pc ls (.inr (.inl v) :: .inr (.inl u) :: st) σ Q :=
  wp_st hq (x := (p0 + len, ls, .inr (.inl (u.tmod v)) :: st, σ)) (by simp [en_st, w64_of hu, w64_of hv, h0]) K
theorem wp_i2l {u : Int} (hq : en_at c pc = some (p0, .i2l, len, a, b, j, x)) (hu : i32 u) (K : en_wp c (p0 + len) ls (.inr (.inl u) :: st) σ Q) : en_wp c pc ls (.inl u :: st) σ Q :=
  wp_st hq (x := (p0 + len, ls, .inr (.inl u) :: st, σ)) (by simp [en_st, w32_of hu]) K
section LC
variable {p1 len1 a1 b1 j1 : Nat} {x1 : Int}
theorem wp_lcmp {u v : Int} (hq : en_at c pc = some (p0, .lcmp, len, a, b, j, x)) (hu : i64 u) (hv : i64 v) (K : en_wp c (p0 + len) ls (.inl (if u < v then -1 else if v < u then 1 else 0) :: st) σ Q) : en_wp c pc ls (.inr (.inl v) :: .inr (.inl u) :: st) σ Q :=
  wp_st hq (x := (p0 + len, ls, .inl (if u < v then -1 else if v < u then 1 else 0) :: st, σ)) (by simp [en_st, w64_of hu, w64_of hv]) K
theorem i32_cm (u v : Int) : i32 (if u < v then -1 else if v < u then 1 else 0) := by
  split
  · exact ⟨by decide, by decide⟩
  · split <;> exact ⟨by decide, by decide⟩
def en_cm (u v : Int) : Int := if u < v then -1 else if v < u then 1 else 0
theorem en_cm_eq {u v : Int} : en_cm u v = 0 ↔ u = v := by unfold en_cm; split <;> (try split) <;> omega
theorem en_cm_lt {u v : Int} : en_cm u v < 0 ↔ u < v := by unfold en_cm; split <;> (try split) <;> omega
theorem en_cm_gt {u v : Int} : 0 < en_cm u v ↔ v < u := by unfold en_cm; split <;> (try split) <;> omega
theorem wp_lc_eq {u v : Int} (hq : en_at c pc = some (p0, .lcmp, len, a, b, j, x)) (hu : i64 u) (hv : i64 v) (hq1 : en_at c (p0 + len) = some (p1, .ifCond .eq off, len1, a1, b1, j1, x1)) (kt : u = v → en_wp c a1 ls st σ Q) (kf : ¬ u = v → en_wp c (p1 + len1) ls st σ Q) : en_wp c pc ls (.inr (.inl v) :: .inr (.inl u) :: st) σ Q :=
  wp_lcmp hq hu hv (wp_if_eq hq1 (i32_cm u v) (fun h => kt (en_cm_eq.mp h)) (fun h => kf (fun e => h (en_cm_eq.mpr e))))
theorem wp_lc_ne {u v : Int} (hq : en_at c pc = some (p0, .lcmp, len, a, b, j, x)) (hu : i64 u) (hv : i64 v) (hq1 : en_at c (p0 + len) = some (p1, .ifCond .ne off, len1, a1, b1, j1, x1)) (kt : ¬ u = v → en_wp c a1 ls st σ Q) (kf : u = v → en_wp c (p1 + len1) ls st σ Q) : en_wp c pc ls (.inr (.inl v) :: .inr (.inl u) :: st) σ Q :=
  wp_lcmp hq hu hv (wp_if_ne hq1 (i32_cm u v) (fun h => kt (fun e => h (en_cm_eq.mpr e))) (fun h => kf (en_cm_eq.mp h)))
theorem wp_lc_lt {u v : Int} (hq : en_at c pc = some (p0, .lcmp, len, a, b, j, x)) (hu : i64 u) (hv : i64 v) (hq1 : en_at c (p0 + len) = some (p1, .ifCond .lt off, len1, a1, b1, j1, x1)) (kt : u < v → en_wp c a1 ls st σ Q) (kf : v ≤ u → en_wp c (p1 + len1) ls st σ Q) : en_wp c pc ls (.inr (.inl v) :: .inr (.inl u) :: st) σ Q :=
  wp_lcmp hq hu hv (wp_if_lt hq1 (i32_cm u v) (fun h => kt (en_cm_lt.mp h)) (fun h => kf (Int.not_lt.mp (fun e => absurd (en_cm_lt.mpr e) (Int.not_lt.mpr h)))))
theorem wp_lc_ge {u v : Int} (hq : en_at c pc = some (p0, .lcmp, len, a, b, j, x)) (hu : i64 u) (hv : i64 v) (hq1 : en_at c (p0 + len) = some (p1, .ifCond .ge off, len1, a1, b1, j1, x1)) (kt : v ≤ u → en_wp c a1 ls st σ Q) (kf : u < v → en_wp c (p1 + len1) ls st σ Q) : en_wp c pc ls (.inr (.inl v) :: .inr (.inl u) :: st) σ Q :=
  wp_lcmp hq hu hv (wp_if_ge hq1 (i32_cm u v) (fun h => kt (Int.not_lt.mp (fun e => absurd (en_cm_lt.mpr e) (Int.not_lt.mpr h)))) (fun h => kf (en_cm_lt.mp h)))
theorem wp_lc_gt {u v : Int} (hq : en_at c pc = some (p0, .lcmp, len, a, b, j, x)) (hu : i64 u) (hv : i64 v) (hq1 : en_at c (p0 + len) = some (p1, .ifCond .gt off, len1, a1, b1, j1, x1)) (kt : v < u → en_wp c a1 ls st σ Q) (kf : u ≤ v → en_wp c (p1 + len1) ls st σ Q) : en_wp c pc ls (.inr (.inl v) :: .inr (.inl u) :: st) σ Q :=
  wp_lcmp hq hu hv (wp_if_gt hq1 (i32_cm u v) (fun h => kt (en_cm_gt.mp h)) (fun h => kf (Int.not_lt.mp (fun e => absurd (en_cm_gt.mpr e) (Int.not_lt.mpr h)))))
theorem wp_lc_le {u v : Int} (hq : en_at c pc = some (p0, .lcmp, len, a, b, j, x)) (hu : i64 u) (hv : i64 v) (hq1 : en_at c (p0 + len) = some (p1, .ifCond .le off, len1, a1, b1, j1, x1)) (kt : u ≤ v → en_wp c a1 ls st σ Q) (kf : v < u → en_wp c (p1 + len1) ls st σ Q) : en_wp c pc ls (.inr (.inl v) :: .inr (.inl u) :: st) σ Q :=
  wp_lcmp hq hu hv (wp_if_le hq1 (i32_cm u v) (fun h => kt (Int.not_lt.mp (fun e => absurd (en_cm_gt.mpr e) (Int.not_lt.mpr h)))) (fun h => kf (en_cm_gt.mp h)))
end LC
theorem wp_vret (hq : en_at c pc = some (p0, .return_, len, a, b, j, x)) (K : Q none σ) : en_wp c pc ls [] σ Q := ⟨1, none, σ, by rw [en_ev_s _ hq]; rfl, K⟩
theorem wp_iret {v : Int} (hq : en_at c pc = some (p0, .ireturn, len, a, 0, j, x)) (K : Q (some (.inl v)) σ) : en_wp c pc ls [.inl v] σ Q := ⟨1, _, σ, by rw [en_ev_s _ hq]; rfl, K⟩
theorem wp_zret {v : Int} (hq : en_at c pc = some (p0, .ireturn, len, a, 1, j, x)) (hv : v = 0 ∨ v = 1) (K : Q (some (.inl v)) σ) : en_wp c pc ls [.inl v] σ Q := ⟨1, _, σ, by rw [en_ev_s _ hq]; rcases hv with rfl | rfl <;> rfl, K⟩
theorem wp_lret {v : Int} (hq : en_at c pc = some (p0, .lreturn, len, a, b, j, x)) (K : Q (some (.inr (.inl v))) σ) : en_wp c pc ls [.inr (.inl v)] σ Q := ⟨1, _, σ, by rw [en_ev_s _ hq]; rfl, K⟩
theorem wp_aret {v : Nat × Int} (hq : en_at c pc = some (p0, .areturn, len, a, b, j, x)) (hv : v ∈ en_C) (K : Q (some (.inr (.inr v))) σ) : en_wp c pc ls [.inr (.inr v)] σ Q := ⟨1, _, σ, by rw [en_ev_s _ hq]; show (if v ∈ en_C then _ else _) = _; rw [if_pos hv], K⟩
theorem wp_callv {Q1 : Option en_v → en_m → Prop} {idx : Nat} {as r : List en_v} (hq : en_at c pc = some (p0, .invokevirtual idx, len, a, b, j, x)) (hp : en_rcv x (en_pop b st []) = some (as, r)) (hs : (Nat.ble (en_sum r) 8 && Nat.ble (en_sum as) (en_D a).2.2.1) = true) (hb : en_bi a as = none) (hc : en_ct a as σ Q1) (K : ∀ v σ', Q1 v σ' → en_wp c (pc + len) ls (v.toList ++ r) σ' Q) : en_wp c pc ls st σ Q := by
  obtain ⟨n, v, σ', h1, h2⟩ := hc
  obtain ⟨m, w, τ, h3, h4⟩ := K v σ' h2
  refine ⟨max n m + 1, w, τ, ?_, h4⟩
  rw [en_ev_s _ hq]
  show en_cl _ _ c pc ls σ (en_rcv x (en_pop b st [])) = _
  rw [hp]
  unfold en_cl
  dsimp only
  rw [hs, hb]
  dsimp only [cond_true]
  rw [en_monole (Nat.le_max_left n m) h1]
  exact en_monole (Nat.le_max_right n m) h3
theorem wp_calls {Q1 : Option en_v → en_m → Prop} {idx : Nat} {as r : List en_v} (hq : en_at c pc = some (p0, .invokestatic idx, len, a, b, j, x)) (h100 : Nat.ble 100 b = false) (hp : en_pop b st [] = some (as, r)) (hs : (Nat.ble (en_sum r) 8 && Nat.ble (en_sum as) (en_D a).2.2.1) = true) (hb : en_bi a as = none) (hc : en_ct a as σ Q1) (K : ∀ v σ', Q1 v σ' → en_wp c (pc + len) ls (v.toList ++ r) σ' Q) : en_wp c pc ls st σ Q := by
  obtain ⟨n, v, σ', h1, h2⟩ := hc
  obtain ⟨m, w, τ, h3, h4⟩ := K v σ' h2
  refine ⟨max n m + 1, w, τ, ?_, h4⟩
  rw [en_ev_s _ hq]
  show (bif Nat.ble 100 b then _ else en_cl _ _ c pc ls σ (en_pop b st [])) = _
  rw [h100, hp]
  unfold en_cl
  dsimp only [cond_false]
  rw [hs, hb]
  dsimp only [cond_true]
  rw [en_monole (Nat.le_max_left n m) h1]
  exact en_monole (Nat.le_max_right n m) h3
/-- a call whose answer is known, and which changes nothing -/
def en_fn (z : Nat) (as : List en_v) (σ : en_m) (v : en_v) : Prop := en_ct z as σ (fun r σ' => r = some v ∧ σ' = σ)
theorem wp_fnv {v : en_v} {idx : Nat} {as r : List en_v} (hq : en_at c pc = some (p0, .invokevirtual idx, len, a, b, j, x)) (hp : en_rcv x (en_pop b st []) = some (as, r)) (hs : (Nat.ble (en_sum r) 8 && Nat.ble (en_sum as) (en_D a).2.2.1) = true) (hb : en_bi a as = none) (hc : en_fn a as σ v) (K : en_wp c (pc + len) ls (v :: r) σ Q) : en_wp c pc ls st σ Q :=
  wp_callv hq hp hs hb hc (fun _ _ h => by obtain ⟨rfl, rfl⟩ := h; exact K)
theorem wp_fns {v : en_v} {idx : Nat} {as r : List en_v} (hq : en_at c pc = some (p0, .invokestatic idx, len, a, b, j, x)) (h100 : Nat.ble 100 b = false) (hp : en_pop b st [] = some (as, r)) (hs : (Nat.ble (en_sum r) 8 && Nat.ble (en_sum as) (en_D a).2.2.1) = true) (hb : en_bi a as = none) (hc : en_fn a as σ v) (K : en_wp c (pc + len) ls (v :: r) σ Q) : en_wp c pc ls st σ Q :=
  wp_calls hq h100 hp hs hb hc (fun _ _ h => by obtain ⟨rfl, rfl⟩ := h; exact K)
theorem wp_get4 {idx : Nat} {k : Nat} {o : Int} {cl : Nat} {fs : List (Nat × Nat × Nat)} {r t : Nat} (hq : en_at c pc = some (p0, .getfield idx, len, a, b, j, x)) (hk : en_K k = .inl (cl, fs)) (hc : Nat.beq cl a = true) (hf : fs[b]? = some (4, r, t)) (hv : σ r 0 = 0 ∨ σ r 0 = (en_len t : Int)) (K : en_wp c (p0 + len) ls (.inr (.inr (t, σ r 0)) :: st) σ Q) : en_wp c pc ls (.inr (.inr (k, o)) :: st) σ Q :=
  wp_st hq (x := (p0 + len, ls, .inr (.inr (t, σ r 0)) :: st, σ)) (by simp only [en_st, hk, hc, hf, en_fg, cond_true, if_pos hv]) K
theorem wp_get5 {idx : Nat} {k : Nat} {o : Int} {cl : Nat} {fs : List (Nat × Nat × Nat)} {r t : Nat} (w : Nat) (hq : en_at c pc = some (p0, .getfield idx, len, a, b, j, x)) (hk : en_K k = .inl (cl, fs)) (hc : Nat.beq cl a = true) (hf : fs[b]? = some (5, r, t)) (hv : σ r 0 = (w : Int)) (hw : w < 3) (K : en_wp c (p0 + len) ls (.inr (.inr (t + w, 0)) :: st) σ Q) : en_wp c pc ls (.inr (.inr (k, o)) :: st) σ Q :=
  wp_st hq (x := (p0 + len, ls, .inr (.inr (t + w, 0)) :: st, σ)) (by
    have h3 : w = 0 ∨ w = 1 ∨ w = 2 := by omega
    rcases h3 with rfl | rfl | rfl <;> simp [en_st, hk, hc, hf, en_fg, hv]) K
theorem wp_put1 {idx : Nat} {k : Nat} {o : Int} {cl : Nat} {fs : List (Nat × Nat × Nat)} {r t : Nat} {v : Int} (hq : en_at c pc = some (p0, .putfield idx, len, a, b, j, x)) (hk : en_K k = .inl (cl, fs)) (hc : Nat.beq cl a = true) (hf : fs[b]? = some (1, r, t)) (hv : v = 0 ∨ v = 1) (K : en_wp c (p0 + len) ls st (sr σ r (fun _ => v)) Q) : en_wp c pc ls (.inl v :: .inr (.inr (k, o)) :: st) σ Q :=
  wp_st hq (x := (p0 + len, ls, st, sr σ r (fun _ => v))) (by simp only [en_st, hk, hc, hf, en_fp, cond_true, if_pos hv]) K
theorem wp_put4 {idx : Nat} {k : Nat} {o : Int} {cl : Nat} {fs : List (Nat × Nat × Nat)} {r t : Nat} {w : Int} (hq : en_at c pc = some (p0, .putfield idx, len, a, b, j, x)) (hk : en_K k = .inl (cl, fs)) (hc : Nat.beq cl a = true) (hf : fs[b]? = some (4, r, t)) (hv : w = 0 ∨ w = (en_len t : Int)) (K : en_wp c (p0 + len) ls st (sr σ r (fun _ => w)) Q) : en_wp c pc ls (.inr (.inr (t, w)) :: .inr (.inr (k, o)) :: st) σ Q :=
  wp_st hq (x := (p0 + len, ls, st, sr σ r (fun _ => w))) (by simp only [en_st, hk, hc, hf, en_fp, cond_true, if_pos hv, Nat.beq_refl]) K
theorem wp_copy {idx : Nat} {kd ks td nd tD nS tS : Nat} {bd bs n dp sp : Int} (hq : en_at c pc = some (p0, .invokestatic idx, len, a, 100, j, x)) (hd : en_K kd = .inr (td, nd, tD)) (hsr : en_K ks = .inr (td, nS, tS)) (ht : ((Nat.beq td 0 || Nat.beq td 3) && Nat.ble st.length 3) = true) (hn : 0 ≤ n) (h1 : 0 ≤ dp ∧ dp + n ≤ nd) (h2 : 0 ≤ sp ∧ sp + n ≤ nS) (K : en_wp c (p0 + len) ls st (sr σ kd (en_cpy (σ ks) (σ kd) (bs + sp) (bd + dp) n)) Q) (hl : (Nat.ble nd 2147483647 && Nat.ble nS 2147483647) = true := by rfl) : en_wp c pc ls (.inl n :: .inl dp :: .inr (.inr (kd, bd)) :: .inl sp :: .inr (.inr (ks, bs)) :: st) σ Q := by
  simp only [Bool.and_eq_true] at hl ht
  have g1 := Nat.le_of_ble_eq_true hl.1
  have g2 := Nat.le_of_ble_eq_true hl.2
  have e1 : w32 n = n := w32_of ⟨by omega, by omega⟩
  have e2 : w32 dp = dp := w32_of ⟨by omega, by omega⟩
  have e3 : w32 sp = sp := w32_of ⟨by omega, by omega⟩
  exact wp_st hq (x := (p0 + len, ls, st, sr σ kd (en_cpy (σ ks) (σ kd) (bs + sp) (bd + dp) n))) (by
    have ht2 : (Nat.beq td td && (Nat.beq td 0 || Nat.beq td 3) && Nat.ble st.length 3) = true := by simp [ht.1, ht.2]
    have hc : (0 ≤ n ∧ 0 ≤ dp ∧ 0 ≤ sp) ∧ dp + n ≤ nd ∧ sp + n ≤ nS := ⟨⟨hn, h1.1, h2.1⟩, h1.2, h2.2⟩
    show (bif Nat.beq 100 100 then _ else none) = _
    simp only [hd, hsr, ht2, e1, e2, e3, if_pos hc, cond_true]
    rfl) K
theorem wp_max {idx : Nat} {u v : Int} (hq : en_at c pc = some (p0, .invokestatic idx, len, a, 101, j, x)) (hl : Nat.ble st.length 8 = true) (hu : i32 u) (hv : i32 v) (K : en_wp c (p0 + len) ls (.inl (max u v) :: st) σ Q) : en_wp c pc ls (.inl v :: .inl u :: st) σ Q :=
  wp_st hq (x := (p0 + len, ls, .inl (max u v) :: st, σ)) (by
    show (bif Nat.ble st.length 8 then some (p0 + len, ls, Sum.inl (if w32 u < w32 v then v else u) :: st, σ) else none) = _
    rw [hl, w32_of hu, w32_of hv]
    by_cases h : u < v
    · rw [if_pos h, Int.max_eq_right (by omega)]; rfl
    · rw [if_neg h, Int.max_eq_left (by omega)]; rfl) K
theorem wp_min {idx : Nat} {u v : Int} (hq : en_at c pc = some (p0, .invokestatic idx, len, a, 102, j, x)) (hl : Nat.ble st.length 8 = true) (hu : i32 u) (hv : i32 v) (K : en_wp c (p0 + len) ls (.inl (min u v) :: st) σ Q) : en_wp c pc ls (.inl v :: .inl u :: st) σ Q :=
  wp_st hq (x := (p0 + len, ls, .inl (min u v) :: st, σ)) (by
    show (bif Nat.ble st.length 8 then some (p0 + len, ls, Sum.inl (if w32 v < w32 u then v else u) :: st, σ) else none) = _
    rw [hl, w32_of hu, w32_of hv]
    by_cases h : v < u
    · rw [if_pos h, Int.min_eq_right (by omega)]; rfl
    · rw [if_neg h, Int.min_eq_left (by omega)]; rfl) K
theorem wp_wk {idx : Nat} {v : Int} (hq : en_at c pc = some (p0, .invokestatic idx, len, z_X10_wordKind, 1, j, x)) (hv : i64 v) (hs : Nat.ble (en_sum st) 8 = true) (K : en_wp c (pc + len) ls (.inl (if v = 17376677 then 1 else if v = 408572082 then 2 else if v = 655 then 3 else if v = 12343 then 4 else 5) :: st) σ Q) : en_wp c pc ls (.inr (.inl v) :: st) σ Q := by
  obtain ⟨n, w, τ, h3, h4⟩ := K
  refine ⟨n + 1, w, τ, ?_, h4⟩
  rw [en_ev_s _ hq]
  rw [show en_by (en_ev n) (p0, .invokestatic idx, len, z_X10_wordKind, 1, j, x) c pc ls (.inr (.inl v) :: st) σ = en_cl (en_ev n) (p0, .invokestatic idx, len, z_X10_wordKind, 1, j, x) c pc ls σ (some ([.inr (.inl v)], st)) from rfl]
  unfold en_cl
  dsimp only
  rw [show (Nat.ble (en_sum st) 8 && Nat.ble (en_sum [Sum.inr (Sum.inl v)]) (en_D z_X10_wordKind).2.2.1) = true by rw [hs]; rfl]
  have e : en_bi z_X10_wordKind [.inr (.inl v)] = some (some (.inl (if v = 17376677 then 1 else if v = 408572082 then 2 else if v = 655 then 3 else if v = 12343 then 4 else 5))) := by
    show some (some (Sum.inl (en_wk v))) = _
    unfold en_wk
    rw [w64_of hv]
  rw [e]
  exact h3
end ENR
/-- fewer locals known -/
def en_sub : en_l → en_l → Prop
  | [], [] => True
  | none :: r, _ :: r' => en_sub r r'
  | some v :: r, w :: r' => w = some v ∧ en_sub r r'
  | _, _ => False
theorem en_sub_get : ∀ {l l' : en_l}, en_sub l l' → ∀ (i : Nat) (v : en_v), en_get l i = some v → en_get l' i = some v
  | [], [], _, _, _, h => h
  | none :: r, w :: r', hs, i, v, h => by
    cases i with
    | zero => cases h
    | succ i => exact en_sub_get (l := r) (l' := r') hs i v h
  | some u :: r, w :: r', hs, i, v, h => by
    cases i with
    | zero => rw [hs.1]; exact h
    | succ i => exact en_sub_get (l := r) (l' := r') hs.2 i v h
  | [], _ :: _, hs, _, _, _ => hs.elim
  | none :: _, [], hs, _, _, _ => hs.elim
  | some _ :: _, [], hs, _, _, _ => hs.elim
theorem en_sub_set : ∀ {l l' : en_l}, en_sub l l' → ∀ (i : Nat) (v : Option en_v), en_sub (en_set l i v) (en_set l' i v)
  | [], [], _, _, _ => trivial
  | none :: r, w :: r', hs, i, v => by
    cases i with
    | zero => cases v with
      | none => exact hs
      | some v => exact ⟨rfl, hs⟩
    | succ i => exact en_sub_set (l := r) (l' := r') hs i v
  | some u :: r, w :: r', hs, i, v => by
    cases i with
    | zero => cases v with
      | none => exact hs.2
      | some v => exact ⟨rfl, hs.2⟩
    | succ i => exact ⟨hs.1, en_sub_set (l := r) (l' := r') hs.2 i v⟩
  | [], _ :: _, hs, _, _ => hs.elim
  | none :: _, [], hs, _, _ => hs.elim
  | some _ :: _, [], hs, _, _ => hs.elim
theorem en_sub_none : ∀ {l l' : en_l}, en_sub l l' → ∀ (i : Nat), (∀ v, en_get l i ≠ some v) → en_sub l (en_set l' i none)
  | [], [], _, _, _ => trivial
  | none :: r, w :: r', hs, i, hv => by
    cases i with
    | zero => exact hs
    | succ i => exact en_sub_none (l := r) (l' := r') hs i hv
  | some u :: r, w :: r', hs, i, hv => by
    cases i with
    | zero => exact absurd rfl (hv u)
    | succ i => exact ⟨hs.1, en_sub_none (l := r) (l' := r') hs.2 i hv⟩
  | [], _ :: _, hs, _, _ => hs.elim
  | none :: _, [], hs, _, _ => hs.elim
  | some _ :: _, [], hs, _, _ => hs.elim
theorem en_sub_kill {l l' : en_l} (h : en_sub l l') (i : Nat) : en_sub (en_kill l i) (en_kill l' i) := by
  cases i with
  | zero => exact h
  | succ n =>
    show en_sub (bif en_c2 (en_get l n) then en_set l n none else l) (bif en_c2 (en_get l' n) then en_set l' n none else l')
    cases hg : en_get l n with
    | none =>
      show en_sub l (bif en_c2 (en_get l' n) then en_set l' n none else l')
      cases hc : en_c2 (en_get l' n) with
      | false => exact h
      | true => exact en_sub_none h n (fun v hv => by rw [hg] at hv; cases hv)
    | some v =>
      rw [en_sub_get h n v hg]
      cases en_c2 (some v) with
      | false => exact h
      | true => exact en_sub_set h n none
theorem en_sub_s1 {l l' : en_l} (h : en_sub l l') (i : Nat) (v : en_v) : en_sub (en_s1 l i v) (en_s1 l' i v) := en_sub_set (en_sub_kill h i) i _
theorem en_sub_s2 {l l' : en_l} (h : en_sub l l') (i : Nat) (v : en_v) : en_sub (en_s2 l i v) (en_s2 l' i v) := en_sub_set (en_sub_s1 h i v) _ _
theorem en_sub_st {l l' : en_l} (hs : en_sub l l') {q : en_q} {st : List en_v} {σ : en_m} {x : en_x} (h : en_st q l st σ = some x) : ∃ l2, en_st q l' st σ = some (x.1, l2, x.2.2) ∧ en_sub x.2.1 l2 := by
  obtain ⟨p0, i, len, a, b, j, z⟩ := q
  obtain ⟨p', m', s', μ'⟩ := x
  have sload : ∀ {y : Option en_v}, en_get l a = y → ∀ v, y = some v → en_get l' a = some v := fun h1 v h2 => en_sub_get hs a v (h1.trans h2)
  cases i <;> unfold en_st at h ⊢ <;> dsimp only at h ⊢ <;> first
    | (cases h; done)
    | (cases h; exact ⟨_, rfl, hs⟩)
    | (split at h <;> first | (cases h; done) | (rename_i hg; cases h; rw [en_sub_get hs _ _ hg]; exact ⟨_, rfl, hs⟩))
    | (split at h <;> first | (cases h; done) | (cases h; exact ⟨_, rfl, en_sub_s1 hs _ _⟩) | (cases h; exact ⟨_, rfl, en_sub_s2 hs _ _⟩))
    | (split at h <;> first | (cases h; done) | (rename_i hg; cases h; rw [en_sub_get hs _ _ hg]; exact ⟨_, rfl, en_sub_s1 hs _ _⟩))
    | (refine ⟨l', ?_, ?_⟩ <;> (revert h; repeat' split) <;> intro h <;> cases h <;> first | rfl | exact hs)
    | (revert h; generalize Nat.beq b 0 = bb; cases bb <;> intro h <;> cases h; exact ⟨_, rfl, hs⟩)
    | (simp only [cond_eq_ite] at h ⊢; refine ⟨l', ?_, ?_⟩ <;> (revert h; repeat' split) <;> intro h <;> cases h <;> first | rfl | exact hs)
theorem en_sub_ev : ∀ (n : Nat) (c : en_c) (pc : Nat) (l l' : en_l) (st : List en_v) (σ : en_m) (x : Option en_v × en_m), en_sub l l' → en_ev n c pc l st σ = some x → en_ev n c pc l' st σ = some x := by
  intro n
  induction n with
  | zero => intro c pc l l' st σ x _ h; cases h
  | succ n ih =>
    intro c pc l l' st σ x hs h
    cases hq : en_at c pc with
    | none =>
      exfalso
      have : en_ev (n + 1) c pc l st σ = none := by
        show (match en_at c pc with | none => none | some q => en_by (en_ev n) q c pc l st σ) = _
        rw [hq]
      rw [this] at h
      cases h
    | some q =>
      rw [en_ev_s _ hq] at h ⊢
      have step : en_go (en_ev n) c (en_st q l st σ) = some x → en_go (en_ev n) c (en_st q l' st σ) = some x := by
        intro hy
        cases hst : en_st q l st σ with
        | none => rw [hst] at hy; cases hy
        | some y =>
          obtain ⟨l2, e2, hs2⟩ := en_sub_st hs hst
          rw [hst] at hy
          rw [e2]
          exact ih _ _ _ _ _ _ _ hs2 hy
      have call : ∀ y, en_cl (en_ev n) q c pc l σ y = some x → en_cl (en_ev n) q c pc l' σ y = some x := by
        intro y hy
        cases y with
        | none => cases hy
        | some z =>
          obtain ⟨as, r⟩ := z
          unfold en_cl at hy ⊢
          dsimp only at hy ⊢
          cases hb : (Nat.ble (en_sum r) 8 && Nat.ble (en_sum as) (en_D q.2.2.2.1).2.2.1) with
          | false => rw [hb] at hy; cases hy
          | true =>
            rw [hb] at hy
            dsimp only [cond_true] at hy ⊢
            cases hbi : en_bi q.2.2.2.1 as with
            | some v => rw [hbi] at hy; exact ih _ _ _ _ _ _ _ hs hy
            | none =>
              rw [hbi] at hy
              dsimp only at hy ⊢
              cases he : en_ev n (en_T q.2.2.2.1) 0 (en_ent q.2.2.2.1 as) [] σ with
              | none => rw [he] at hy; cases hy
              | some w =>
                rw [he] at hy
                exact ih _ _ _ _ _ _ _ hs hy
      unfold en_by at h ⊢
      generalize q.2.1 = i at h ⊢
      cases i <;> first
        | exact step h
        | exact call _ h
        | exact h
        | skip
      · revert h
        dsimp only
        cases Nat.ble 100 q.2.2.2.2.1
        · exact call _
        · exact step
theorem wp_sub {c : en_c} {pc : Nat} {l l' : en_l} {st : List en_v} {σ : en_m} {Q : Option en_v → en_m → Prop} (h : en_sub l l') (K : en_wp c pc l st σ Q) : en_wp c pc l' st σ Q := by
  obtain ⟨n, r, σ', h1, h2⟩ := K
  exact ⟨n, r, σ', en_sub_ev n c pc l l' st σ _ h h1, h2⟩
/-! memories as lists of changed regions -/
abbrev en_g : Type := List (Nat × (Int → Int))
def gt (σ : en_m) : en_g → Nat → Int → Int
  | [], k => σ k
  | q :: r, k => bif Nat.beq k q.1 then q.2 else gt σ r k
def srl (σ : en_m) (l : en_g) : en_m := fun k => gt σ l k
def sl : en_g → Nat → (Int → Int) → en_g
  | [], k, f => [(k, f)]
  | q :: r, k, f => bif Nat.beq k q.1 then (k, f) :: r else q :: sl r k f
def slm : en_g → en_g → en_g
  | l, [] => l
  | l, q :: r => slm (sl l q.1 q.2) r
theorem beq_sym (a b : Nat) : Nat.beq a b = Nat.beq b a := by
  cases h : Nat.beq a b with
  | true => rw [Nat.eq_of_beq_eq_true h]; exact (Nat.beq_refl b).symm
  | false =>
    cases h2 : Nat.beq b a with
    | false => rfl
    | true =>
      rw [Nat.eq_of_beq_eq_true h2, Nat.beq_refl] at h
      cases h
theorem gt_sl (σ : en_m) : ∀ (l : en_g) (k : Nat) (f : Int → Int) (k' : Nat), gt σ (sl l k f) k' = bif Nat.beq k' k then f else gt σ l k'
  | [], k, f, k' => rfl
  | q :: r, k, f, k' => by
    show gt σ (bif Nat.beq k q.1 then (k, f) :: r else q :: sl r k f) k' = bif Nat.beq k' k then f else bif Nat.beq k' q.1 then q.2 else gt σ r k'
    cases h : Nat.beq k q.1 with
    | true =>
      have e := Nat.eq_of_beq_eq_true h
      show (bif Nat.beq k' k then f else gt σ r k') = _
      rw [← e]
      cases Nat.beq k' k <;> rfl
    | false =>
      show (bif Nat.beq k' q.1 then q.2 else gt σ (sl r k f) k') = _
      rw [gt_sl σ r k f k']
      cases h1 : Nat.beq k' k with
      | false => rfl
      | true =>
        rw [Nat.eq_of_beq_eq_true h1, h]
        rfl
theorem sr_srl (σ : en_m) (l : en_g) (k : Nat) (f : Int → Int) : sr (srl σ l) k f = srl σ (sl l k f) := by
  funext k'
  exact (gt_sl σ l k f k').symm
theorem srl_nil (σ : en_m) : srl σ [] = σ := rfl
theorem srl_cons (σ : en_m) : ∀ (l : en_g) (q : Nat × (Int → Int)), srl σ (l ++ [q]) = srl (sr σ q.1 q.2) l
  | [], q => by funext k; rfl
  | p :: r, q => by
    funext k
    show (bif Nat.beq k p.1 then p.2 else gt σ (r ++ [q]) k) = (bif Nat.beq k p.1 then p.2 else gt (sr σ q.1 q.2) r k)
    rw [show gt σ (r ++ [q]) k = gt (sr σ q.1 q.2) r k from congrFun (srl_cons σ r q) k]
/-- all of the second list are apart from one another: their order does not count -/
def en_apart : en_g → Bool
  | [] => true
  | q :: r => r.all (fun p => !Nat.beq q.1 p.1) && en_apart r
theorem gt_slm (σ : en_m) : ∀ (l2 l : en_g) (k : Nat), en_apart l2 = true → gt σ (slm l l2) k = gt (srl σ l) l2 k
  | [], l, k, _ => rfl
  | q :: r, l, k, h => by
    have hq : (r.all (fun p => !Nat.beq q.1 p.1) && en_apart r) = true := h
    simp only [Bool.and_eq_true, List.all_eq_true] at hq
    show gt σ (slm (sl l q.1 q.2) r) k = bif Nat.beq k q.1 then q.2 else gt (srl σ l) r k
    rw [gt_slm σ r (sl l q.1 q.2) k hq.2]
    rw [← sr_srl]
    cases hk : Nat.beq k q.1 with
    | true =>
      have e := Nat.eq_of_beq_eq_true hk
      show gt (sr (srl σ l) q.1 q.2) r k = q.2
      have key : ∀ (r : en_g), (∀ p ∈ r, (!Nat.beq q.1 p.1) = true) → gt (sr (srl σ l) q.1 q.2) r k = q.2 := by
        intro r
        induction r with
        | nil => intro _; show (bif Nat.beq k q.1 then q.2 else _) = _; rw [hk]; rfl
        | cons p r ih =>
          intro hp
          have h1 := hp p List.mem_cons_self
          show (bif Nat.beq k p.1 then p.2 else gt (sr (srl σ l) q.1 q.2) r k) = _
          have h2 : Nat.beq k p.1 = false := by
            rw [e]
            cases h3 : Nat.beq q.1 p.1 with
            | true => rw [h3] at h1; cases h1
            | false => rfl
          rw [h2]
          exact ih (fun p hp' => hp p (List.mem_cons_of_mem _ hp'))
      exact key r hq.1
    | false =>
      have key : ∀ (r : en_g), gt (sr (srl σ l) q.1 q.2) r k = gt (srl σ l) r k := by
        intro r
        induction r with
        | nil => show (bif Nat.beq k q.1 then q.2 else _) = _; rw [hk]; rfl
        | cons p r ih =>
          show (bif Nat.beq k p.1 then p.2 else gt (sr (srl σ l) q.1 q.2) r k) = (bif Nat.beq k p.1 then p.2 else gt (srl σ l) r k)
          rw [ih]
      exact key r
theorem srl_srl (σ : en_m) (l l2 : en_g) (h : en_apart l2 = true) : srl (srl σ l) l2 = srl σ (slm l l2) := by
  funext k
  exact (gt_slm σ l2 l k h).symm
def srl_ok (σ : en_m) (l l' : en_g) : en_g → Prop
  | [] => True
  | q :: r => gt σ l' q.1 = gt σ l q.1 ∧ srl_ok σ l l' r
theorem srl_ok_mem {σ : en_m} {l l' : en_g} : ∀ {m : en_g}, srl_ok σ l l' m → ∀ q ∈ m, gt σ l' q.1 = gt σ l q.1
  | [], _, _, hq => by cases hq
  | p :: r, h, q, hq => by
    rcases List.mem_cons.mp hq with e | h2
    · rw [e]; exact h.1
    · exact srl_ok_mem h.2 q h2
theorem gt_out {σ : en_m} : ∀ {l : en_g} {k : Nat}, (∀ q ∈ l, Nat.beq k q.1 = false) → gt σ l k = σ k
  | [], _, _ => rfl
  | p :: r, k, h => by
    show (bif Nat.beq k p.1 then p.2 else gt σ r k) = _
    rw [h p List.mem_cons_self]
    exact gt_out (fun q hq => h q (List.mem_cons_of_mem _ hq))
theorem srl_eq {σ : en_m} {l l' : en_g} (h1 : srl_ok σ l l' l) (h2 : srl_ok σ l l' l') : srl σ l = srl σ l' := by
  funext k
  show gt σ l k = gt σ l' k
  by_cases c1 : ∃ q ∈ l, Nat.beq k q.1 = true
  · obtain ⟨q, hq, e⟩ := c1
    rw [Nat.eq_of_beq_eq_true e]
    exact (srl_ok_mem h1 q hq).symm
  · by_cases c2 : ∃ q ∈ l', Nat.beq k q.1 = true
    · obtain ⟨q, hq, e⟩ := c2
      rw [Nat.eq_of_beq_eq_true e]
      exact (srl_ok_mem h2 q hq).symm
    · rw [gt_out (fun q hq => Bool.eq_false_iff.mpr fun e => c1 ⟨q, hq, e⟩), gt_out (fun q hq => Bool.eq_false_iff.mpr fun e => c2 ⟨q, hq, e⟩)]
section ENW
variable {c : en_c} {pc : Nat} {ls : en_l} {st : List en_v} {σ : en_m} {l l2 : en_g} {Q : Option en_v → en_m → Prop}
theorem wp_mem {μ μ' : en_m} (h : μ = μ') (K : en_wp c pc ls st μ' Q) : en_wp c pc ls st μ Q := h ▸ K
theorem wp_wr {k : Nat} {f : Int → Int} (h : sl l k f = l2) (K : en_wp c pc ls st (srl σ l2) Q) : en_wp c pc ls st (sr (srl σ l) k f) Q := wp_mem (by rw [sr_srl, h]) K
theorem wp_bk {lc : en_g} (ha : en_apart lc = true) (h : slm l lc = l2) (K : en_wp c pc ls st (srl σ l2) Q) : en_wp c pc ls st (srl (srl σ l) lc) Q := wp_mem (by rw [srl_srl _ _ _ ha, h]) K
end ENW
section ENS
variable {c : en_c} {pc : Nat} {ls : en_l} {st : List en_v} {σ : en_m} {Q : Option en_v → en_m → Prop} {p0 len a b j : Nat} {x : Int}
theorem wp_sw_out {u d lo hi : Int} {offs : Array Int} {tgt : Nat} (hq : en_at c pc = some (p0, .tableswitch d lo hi offs, len, a, b, j, x)) (hu : i32 u) (h : u < lo ∨ hi < u) (ht : ((p0 : Int) + d).toNat = tgt) (K : en_wp c tgt ls st σ Q) : en_wp c pc ls (.inl u :: st) σ Q := by
  subst ht
  exact wp_st hq (x := (((p0 : Int) + d).toNat, ls, st, σ)) (by simp only [en_st, w32_of hu, if_pos h]) K
theorem wp_lk_out {u d o : Int} {ps : Array (Int × Int)} {tgt : Nat} (hq : en_at c pc = some (p0, .lookupswitch d ps, len, a, b, j, x)) (hu : i32 u) (ho : Op.lookupswitch.offset ps.toList d u = o) (ht : ((p0 : Int) + o).toNat = tgt) (K : en_wp c tgt ls st σ Q) : en_wp c pc ls (.inl u :: st) σ Q := by
  subst ht; subst ho
  exact wp_st hq (x := (((p0 : Int) + Op.lookupswitch.offset ps.toList d u).toNat, ls, st, σ)) (by simp only [en_st, w32_of hu]) K
end ENS
