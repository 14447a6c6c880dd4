/-! LONG is no more than the tokens told; depths; rows stay below the prime -/
def dpN (K : Int → Int) (fr : Int) : Nat → Int
  | 0 => 0
  | k + 1 => if K (fr + k) = 11 then min (dpN K fr k + 1) 4 else if K (fr + k) = 12 then max (dpN K fr k - 1) 0 else dpN K fr k
theorem dpN_lg {K : Int → Int} {fr : Int} {S T : Int → Int} : ∀ k : Nat, (lgN K fr S T k).1 = dpN K fr k
  | 0 => rfl
  | k + 1 => by
    show (lgs K (fr + k) (lgN K fr S T k)).1 = (if K (fr + k) = 11 then min (dpN K fr k + 1) 4 else if K (fr + k) = 12 then max (dpN K fr k - 1) 0 else dpN K fr k)
    rw [← dpN_lg (S := S) (T := T) k]
    unfold lgs
    by_cases h1 : K (fr + k) = 5
    · rw [if_pos h1, if_neg (by omega), if_neg (by omega)]
    rw [if_neg h1]
    by_cases h2 : K (fr + k) = 9 ∨ K (fr + k) = 10
    · rw [if_pos h2, if_neg (by omega), if_neg (by omega)]
    rw [if_neg h2]
    by_cases h3 : K (fr + k) = 11
    · rw [if_pos h3, if_pos h3]
    rw [if_neg h3, if_neg h3]
    by_cases h4 : K (fr + k) = 12
    · rw [if_pos h4, if_pos h4]
    rw [if_neg h4, if_neg h4]
/-- no bracket is closed that has not been opened -/
def dOk (K : Int → Int) (m fr : Int) : Prop := ∀ j, fr ≤ j → j < enD K m fr → K j = 12 → 1 ≤ dpN K fr (j - fr).toNat
theorem enD_lt {K : Int → Int} {m fr i : Int} (hi : fr ≤ i ∧ i < m) (h : ∀ j, fr ≤ j → j < i → ¬ (K j = 8 ∨ K j = 7)) (h2 : ¬ (K i = 8 ∨ K i = 7)) : i < enD K m fr := by
  have g := rn_b (q := fun j => ¬ (K j = 8 ∨ K j = 7)) (N := m) (i := fr) (by omega)
  rcases Int.lt_or_le i (enD K m fr) with c | c
  · exact c
  · exfalso
    refine g.2.2 (by show enD K m fr < m; omega) (fun q => ?_)
    by_cases e : enD K m fr = i
    · rw [show rn (fun j => ¬ (K j = 8 ∨ K j = 7)) m fr = i from e] at q
      exact h2 q
    · exact h (enD K m fr) g.1.1 (by omega) q
theorem dOk_at {K : Int → Int} {m fr i dd : Int} {S T A B : Int → Int} (hD : dOk K m fr) (hi : fr ≤ i ∧ i < m) (h : ∀ j, fr ≤ j → j < i → ¬ (K j = 8 ∨ K j = 7)) (hk : K i = 12) (hE : lgN K fr S T (i - fr).toNat = (dd, A, B)) : 1 ≤ dd := by
  have h1 := hD i hi.1 (enD_lt hi h (by omega)) hk
  rw [← dpN_lg (S := S) (T := T), hE] at h1
  exact h1
theorem sm_ge {f : Int → Int} {k : Int} : ∀ m : Nat, (∀ j : Int, 0 ≤ j → j < m → 0 ≤ f j) → 0 ≤ k → k < m → f k ≤ sm f m
  | 0, _, h0, h1 => by omega
  | m + 1, h, h0, h1 => by
    show f k ≤ sm f m + f m
    have hb : 0 ≤ sm f m := by
      clear h1
      induction m with
      | zero => exact Int.le_refl 0
      | succ m ih =>
        show 0 ≤ sm f m + f m
        have := ih (fun j a b => h j a (by omega))
        have := h m (by omega) (by omega)
        omega
    by_cases e : k = m
    · rw [e]; omega
    · have := sm_ge m (fun j a b => h j a (by omega)) h0 (by omega)
      have := h m (by omega) (by omega)
      omega
def lbQ (dd : Int) (S T : Int → Int) (c : Int) : Prop := (∀ l, 0 ≤ l → l ≤ dd → 0 ≤ S l ∧ 0 ≤ T l) ∧ sm (fun l => max (S l) (T l)) (dd + 1).toNat ≤ c
theorem lb_0 {S T : Int → Int} : lbQ 0 (up S 0 0) (up T 0 0) 0 := by
  refine ⟨fun l a b => ?_, ?_⟩
  · rw [show l = 0 by omega, up_eq, up_eq]; decide
  · show 0 + max (up S 0 0 0) (up T 0 0 0) ≤ 0
    rw [up_eq, up_eq]; decide
section LB
variable {dd c e : Int} {S T S' T' : Int → Int}
theorem lb_s (hd : 0 ≤ dd) : sm (fun l => max (S l) (T l)) (dd + 1).toNat = sm (fun l => max (S l) (T l)) dd.toNat + max (S dd) (T dd) := sm_s _ hd
theorem lb_mk (hd : 0 ≤ dd) (h : lbQ dd S T c) (hs : ∀ l, 0 ≤ l → l < dd → S' l = S l ∧ T' l = T l) (h1 : 0 ≤ S' dd ∧ 0 ≤ T' dd) (h2 : max (S' dd) (T' dd) ≤ max (S dd) (T dd) + e) : lbQ dd S' T' (c + e) := by
  refine ⟨fun l a b => ?_, ?_⟩
  · by_cases q : l = dd
    · rw [q]; exact h1
    · have := hs l a (by omega)
      rw [this.1, this.2]
      exact h.1 l a b
  · have k := h.2
    rw [lb_s hd] at k ⊢
    rw [sm_ext (f := fun l => max (S' l) (T' l)) (g := fun l => max (S l) (T l)) dd.toNat (fun j a b => by
      have := hs j a (by omega)
      show max (S' j) (T' j) = max (S j) (T j)
      rw [this.1, this.2])]
    omega
theorem lb_w (h : lbQ dd S T c) (hc : c ≤ e) : lbQ dd S T e := ⟨h.1, Int.le_trans h.2 hc⟩
theorem lb_op (hd : 0 ≤ dd) (h : lbQ dd S T c) : lbQ (dd + 1) (up S (dd + 1) 0) (up T (dd + 1) 0) c := by
  refine ⟨fun l a b => ?_, ?_⟩
  · by_cases q : l = dd + 1
    · rw [q, up_eq, up_eq]; decide
    · rw [up_ne q, up_ne q]; exact h.1 l a (by omega)
  · have k := h.2
    rw [lb_s (by omega), up_eq, up_eq]
    rw [sm_ext (f := fun l => max (up S (dd + 1) 0 l) (up T (dd + 1) 0 l)) (g := fun l => max (S l) (T l)) (dd + 1).toNat (fun j a b => by
      show max (up S (dd + 1) 0 j) (up T (dd + 1) 0 j) = max (S j) (T j)
      rw [up_ne (by omega), up_ne (by omega)])]
    omega
theorem lb_11 (hd : 0 ≤ dd ∧ dd ≤ 4) (h : lbQ dd S T c) : lbQ (min (dd + 1) 4) (up S (min (dd + 1) 4) 0) (up T (min (dd + 1) 4) 0) c := by
  rcases Int.lt_or_le dd 4 with q | q
  · rw [show min (dd + 1) 4 = dd + 1 by omega]
    exact lb_op hd.1 h
  · rw [show min (dd + 1) 4 = dd by omega]
    have := lb_mk (e := 0) (S' := up S dd 0) (T' := up T dd 0) hd.1 h (fun l a b => ⟨up_ne (by omega), up_ne (by omega)⟩) (by rw [up_eq, up_eq]; decide) (by rw [up_eq, up_eq]; have := h.1 dd hd.1 (Int.le_refl _); omega)
    rw [Int.add_zero] at this
    exact this
theorem lb_12 (hd : 1 ≤ dd) (h : lbQ dd S T c) : lbQ (max (dd - 1) 0) S (up T (max (dd - 1) 0) (T (max (dd - 1) 0) + max (S dd) (T dd))) c := by
  rw [show max (dd - 1) 0 = dd - 1 by omega]
  have hA := h.1 dd (by omega) (Int.le_refl _)
  have hB := h.1 (dd - 1) (by omega) (by omega)
  refine ⟨fun l a b => ?_, ?_⟩
  · by_cases q : l = dd - 1
    · rw [q, up_eq]; omega
    · rw [up_ne q]; exact h.1 l a (by omega)
  · have k := h.2
    have e1 := lb_s (S := S) (T := T) (dd := dd) (by omega)
    have e2 := lb_s (S := S) (T := T) (dd := dd - 1) (by omega)
    rw [show dd - 1 + 1 = dd by omega] at e2
    rw [lb_s (by omega), up_eq]
    rw [sm_ext (f := fun l => max (S l) (up T (dd - 1) (T (dd - 1) + max (S dd) (T dd)) l)) (g := fun l => max (S l) (T l)) (dd - 1).toNat (fun j a b => by
      show max (S j) (up T (dd - 1) (T (dd - 1) + max (S dd) (T dd)) j) = max (S j) (T j)
      rw [up_ne (by omega)])]
    omega
theorem lb_at (hd : 0 ≤ dd) (h : lbQ dd S T c) {l : Int} (hl : 0 ≤ l ∧ l ≤ dd) : (0 ≤ S l ∧ S l ≤ c) ∧ 0 ≤ T l ∧ T l ≤ c := by
  have g := sm_ge (f := fun l => max (S l) (T l)) (k := l) (dd + 1).toNat (fun j a b => by have := h.1 j a (by omega); show 0 ≤ max (S j) (T j); omega) hl.1 (by omega)
  have k := h.1 l hl.1 hl.2
  have m : max (S l) (T l) ≤ c := Int.le_trans g h.2
  omega
theorem lb_5 (hd : 0 ≤ dd) (h : lbQ dd S T c) : lbQ dd S (up T dd (T dd + 1)) (c + 1) := lb_mk hd h (fun l a b => ⟨rfl, up_ne (by omega)⟩) (by rw [up_eq]; have := h.1 dd hd (Int.le_refl _); omega) (by rw [up_eq]; omega)
theorem lb_9 (hd : 0 ≤ dd) (h : lbQ dd S T c) : lbQ dd (up S dd (max (S dd) (T dd))) (up T dd 0) c := by
  have k := h.1 dd hd (Int.le_refl _)
  have := lb_mk (e := 0) (S' := up S dd (max (S dd) (T dd))) (T' := up T dd 0) hd h (fun l a b => ⟨up_ne (by omega), up_ne (by omega)⟩) (by rw [up_eq, up_eq]; omega) (by rw [up_eq, up_eq]; omega)
  rw [Int.add_zero] at this
  exact this
end LB
/-- the rows of the levels up to dd are below p -/
def rP (p dd : Int) (T : Int → Int) : Prop := ∀ l u, 0 ≤ l → l ≤ dd → 0 ≤ u → u < 364 → T (l * 364 + u) < p
theorem rP_seg {p dd d' : Int} {T g : Int → Int} (h : rP p dd T) (h0 : 0 ≤ d') (hd : d' ≤ dd + 1) (hg : ∀ u, 0 ≤ u → u < 364 → g u < p) : rP p d' (seg T (d' * 364) 364 g) := by
  intro l u l0 l1 u0 u1
  by_cases e : l = d'
  · rw [e, seg_in ⟨u0, u1⟩]; exact hg u u0 u1
  · rw [seg_out (by omega)]
    exact h l u l0 (by omega) u0 u1
theorem md_lt {p v : Int} (hp : 0 < p) : 0 ≤ v % p ∧ v % p < p := ⟨Int.emod_nonneg _ (by omega), Int.emod_lt_of_pos _ hp⟩
theorem uRw_b {p s : Int} (hp : 0 < p) (x : Int) : 0 ≤ uRw p s x ∧ uRw p s x < p := by
  unfold uRw
  split
  · exact md_lt hp
  · omega
theorem md_97 {p o : Int} {T g : Int → Int} (hp : 0 < p ∧ p ≤ 97) (h : R97 T) : R97 (seg T o 364 (fun y => g y % p)) := R97_seg h (fun y _ _ => by have := md_lt (v := g y) hp.1; omega)
theorem uR_97 {p d s : Int} {T : Int → Int} (hp : 0 < p ∧ p ≤ 97) (h : R97 T) : R97 (uR p d s T) := R97_seg h (fun y _ _ => by have := uRw_b (s := s) hp.1 y; omega)
