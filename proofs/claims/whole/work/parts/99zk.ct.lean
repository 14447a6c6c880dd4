/-! counting the ways: letter by letter -/
def cnt (S n : Int) (H : (Int → Int) → Int) : Nat → (Int → Int) → Int
  | 0, v => H v
  | m + 1, v => sm (fun a => cnt S n H m (up v (n - ((m : Int) + 1)) a)) S.toNat
section CNT
variable {S n : Int} {H : (Int → Int) → Int}
def hxt (n : Int) (H : (Int → Int) → Int) : Prop := ∀ v v' : Int → Int, (∀ x, 0 ≤ x → x < n → v x = v' x) → H v = H v'
theorem cnt_x (hH : hxt n H) : ∀ (m : Nat) (v v' : Int → Int), (∀ x, 0 ≤ x → x < n - m → v x = v' x) → cnt S n H m v = cnt S n H m v'
  | 0, v, v', h => hH v v' (fun x a b => h x a (by omega))
  | m + 1, v, v', h => sm_ext _ (fun a _ _ => cnt_x hH m _ _ (fun x x0 x1 => by
    by_cases e : x = n - ((m : Int) + 1)
    · rw [e, up_eq, up_eq]
    · rw [up_ne e, up_ne e]; exact h x x0 (by omega)))
/-- the ways with the letters up to i as they are -/
def cq (S n : Int) (H : (Int → Int) → Int) (i : Int) (v : Int → Int) : Int := cnt S n H (n - 1 - i).toNat v
def Aq (S n : Int) (H : (Int → Int) → Int) (i : Int) (v : Int → Int) : Int := sm (fun a => if v i < a then cq S n H i (up v i a) else 0) S.toNat
def rq (S n : Int) (H : (Int → Int) → Int) (f : Int) : Nat → (Int → Int) → Int
  | 0, _ => 0
  | j + 1, v => rq S n H f j v + Aq S n H (f + 1 + j) v
theorem cq_x (hH : hxt n H) {i : Int} {v v' : Int → Int} (hi : i ≤ n - 1) (h : ∀ x, 0 ≤ x → x ≤ i → v x = v' x) : cq S n H i v = cq S n H i v' :=
  cnt_x hH _ _ _ (fun x a b => h x a (by omega))
theorem cq_s {i : Int} {v : Int → Int} (hi : i + 1 ≤ n - 1) : cq S n H i v = sm (fun a => cq S n H (i + 1) (up v (i + 1) a)) S.toNat := by
  unfold cq
  have e : (n - 1 - i).toNat = (n - 1 - (i + 1)).toNat + 1 := by omega
  have e2 : n - ((((n - 1 - (i + 1)).toNat : Nat) : Int) + 1) = i + 1 := by omega
  rw [e]
  show sm (fun a => cnt S n H (n - 1 - (i + 1)).toNat (up v (n - ((((n - 1 - (i + 1)).toNat : Nat) : Int) + 1)) a)) S.toNat = _
  rw [e2]
theorem up_same {v : Int → Int} {i a : Int} (h : v i = a) : up v i a = v := by
  funext x
  by_cases e : x = i
  · rw [e, up_eq, h]
  · rw [up_ne e]
theorem cq_0 (hS : 0 < S) {i : Int} {v : Int → Int} (hi : i + 1 ≤ n - 1) (h0 : v (i + 1) = 0) : cq S n H i v = Aq S n H (i + 1) v + cq S n H (i + 1) v := by
  rw [cq_s hi]
  unfold Aq
  have e : sm (fun a => if a = 0 then cq S n H (i + 1) v else 0) S.toNat = cq S n H (i + 1) v := by
    rw [sm_one (k := 0) S.toNat (Int.le_refl 0) (by omega) (fun j _ _ g => if_neg g), if_pos rfl]
  rw [← e, ← sm_add]
  refine sm_ext _ (fun a a0 a1 => ?_)
  show cq S n H (i + 1) (up v (i + 1) a) = (if v (i + 1) < a then cq S n H (i + 1) (up v (i + 1) a) else 0) + (if a = 0 then cq S n H (i + 1) v else 0)
  by_cases g : a = 0
  · rw [if_pos g, if_neg (by omega), up_same (by omega), Int.zero_add]
  · rw [if_neg g, if_pos (by omega), Int.add_zero]
theorem Aq_max {i : Int} {v : Int → Int} (h : S - 1 ≤ v i) : Aq S n H i v = 0 := sm_zero _ (fun a _ _ => if_neg (by omega))
theorem Aq_inc {i : Int} {v : Int → Int} (h : 0 ≤ v i ∧ v i < S - 1) : Aq S n H i v = cq S n H i (up v i (v i + 1)) + Aq S n H i (up v i (v i + 1)) := by
  unfold Aq
  have e : sm (fun a => if a = v i + 1 then cq S n H i (up v i (v i + 1)) else 0) S.toNat = cq S n H i (up v i (v i + 1)) := by
    rw [sm_one (k := v i + 1) S.toNat (by omega) (by omega) (fun j _ _ g => if_neg g), if_pos rfl]
  rw [← e, ← sm_add]
  refine sm_ext _ (fun a a0 a1 => ?_)
  show (if v i < a then cq S n H i (up v i a) else 0) = (if a = v i + 1 then cq S n H i (up v i (v i + 1)) else 0) + (if up v i (v i + 1) i < a then cq S n H i (up (up v i (v i + 1)) i a) else 0)
  rw [up_eq, up_up]
  by_cases g : a = v i + 1
  · rw [if_pos g, if_pos (by omega), if_neg (by omega), g, Int.add_zero]
  · rw [if_neg g, Int.zero_add]
    by_cases c : v i < a
    · rw [if_pos c, if_pos (by omega)]
    · rw [if_neg c, if_neg (by omega)]
theorem Aq_x (hH : hxt n H) {i : Int} {v v' : Int → Int} (h0 : 0 ≤ i) (hi : i ≤ n - 1) (h : ∀ x, 0 ≤ x → x ≤ i → v x = v' x) : Aq S n H i v = Aq S n H i v' := by
  refine sm_ext _ (fun a _ _ => ?_)
  show (if v i < a then cq S n H i (up v i a) else 0) = (if v' i < a then cq S n H i (up v' i a) else 0)
  rw [h i h0 (Int.le_refl i), cq_x hH hi (v := up v i a) (v' := up v' i a) (fun x x0 x1 => by
    by_cases e : x = i
    · rw [e, up_eq, up_eq]
    · rw [up_ne e, up_ne e]; exact h x x0 x1)]
theorem rq_x (hH : hxt n H) {f : Int} (hf : 0 ≤ f) : ∀ (j : Nat) (v v' : Int → Int), f + j ≤ n - 1 → (∀ x, 0 ≤ x → x ≤ f + j → v x = v' x) → rq S n H f j v = rq S n H f j v'
  | 0, _, _, _, _ => rfl
  | j + 1, v, v', h1, h => by
    show rq S n H f j v + Aq S n H (f + 1 + j) v = rq S n H f j v' + Aq S n H (f + 1 + j) v'
    rw [rq_x hH hf j v v' (by omega) (fun x a b => h x a (by omega)), Aq_x hH (v := v) (v' := v') (by omega) (by omega) (fun x a b => h x a (by omega))]
/-- none of the ways that begin so holds -/
theorem cnt_0 : ∀ (m : Nat) (v : Int → Int), (∀ v' : Int → Int, (∀ x, 0 ≤ x → x < n - m → v' x = v x) → H v' = 0) → cnt S n H m v = 0
  | 0, v, h => h v (fun _ _ _ => rfl)
  | m + 1, v, h => sm_zero _ (fun a _ _ => cnt_0 m _ (fun v' h' => h v' (fun x x0 x1 => by
    rw [h' x x0 (by omega), up_ne (by omega)])))
/-- the order of what a letter may be doesn't count -/
theorem sm_perm {f π κ : Int → Int} {m : Nat} (h1 : ∀ a : Int, 0 ≤ a → a < m → (0 ≤ π a ∧ π a < m) ∧ κ (π a) = a) (h2 : ∀ a : Int, 0 ≤ a → a < m → (0 ≤ κ a ∧ κ a < m) ∧ π (κ a) = a) : sm (fun a => f (π a)) m = sm f m := by
  have e1 : sm (fun a => f (π a)) m = sm (fun a => sm (fun b => if b = π a then f b else 0) m) m := sm_ext m (fun a a0 a1 => by
    show f (π a) = sm (fun b => if b = π a then f b else 0) m
    rw [sm_one (k := π a) m (h1 a a0 a1).1.1 (h1 a a0 a1).1.2 (fun j _ _ g => if_neg g), if_pos rfl])
  rw [e1, sm_swap]
  refine sm_ext m (fun b b0 b1 => ?_)
  show sm (fun a => if b = π a then f b else 0) m = f b
  rw [sm_one (k := κ b) m (h2 b b0 b1).1.1 (h2 b b0 b1).1.2 (fun j j0 j1 g => if_neg (fun e => g (by rw [e]; exact ((h1 j j0 j1).2).symm))), if_pos ((h2 b b0 b1).2).symm]
theorem cnt_perm (hS : 0 ≤ S) {π κ : Int → Int} (h1 : ∀ a : Int, 0 ≤ a → a < S → (0 ≤ π a ∧ π a < S) ∧ κ (π a) = a) (h2 : ∀ a : Int, 0 ≤ a → a < S → (0 ≤ κ a ∧ κ a < S) ∧ π (κ a) = a) (hH : ∀ v, H (fun x => π (v x)) = H v) : ∀ (m : Nat) (v : Int → Int), cnt S n H m (fun x => π (v x)) = cnt S n H m v
  | 0, v => hH v
  | m + 1, v => by
    show sm (fun a => cnt S n H m (up (fun x => π (v x)) (n - ((m : Int) + 1)) a)) S.toNat = sm (fun a => cnt S n H m (up v (n - ((m : Int) + 1)) a)) S.toNat
    rw [← sm_perm (f := fun a => cnt S n H m (up (fun x => π (v x)) (n - ((m : Int) + 1)) a)) (π := π) (κ := κ) (fun a a0 a1 => by have := h1 a a0 (by omega); exact ⟨⟨this.1.1, by omega⟩, this.2⟩) (fun a a0 a1 => by have := h2 a a0 (by omega); exact ⟨⟨this.1.1, by omega⟩, this.2⟩)]
    refine sm_ext _ (fun a _ _ => ?_)
    show cnt S n H m (up (fun x => π (v x)) (n - ((m : Int) + 1)) (π a)) = cnt S n H m (up v (n - ((m : Int) + 1)) a)
    rw [← cnt_perm hS h1 h2 hH m (up v (n - ((m : Int) + 1)) a)]
    congr 1
    funext x
    by_cases e : x = n - ((m : Int) + 1)
    · rw [e, up_eq, up_eq]
    · rw [up_ne e, up_ne e]
/-- two sums in one -/
theorem sm_two (f : Int → Int) (B : Nat) : ∀ A : Nat, sm f (A * B) = sm (fun r => sm (fun a => f (r * B + a)) B) A
  | 0 => by rw [Nat.zero_mul]; rfl
  | A + 1 => by
    show sm f ((A + 1) * B) = sm (fun r => sm (fun a => f (r * B + a)) B) A + sm (fun a => f ((A : Int) * B + a)) B
    rw [Nat.succ_mul, sm_cat, sm_two f B A]
    congr 1
/-- all ways told by one number -/
theorem cnt_all (hS : 0 < S) : ∀ (m : Nat) (v : Int → Int), (m : Int) ≤ n → cnt S n H m v = sm (fun r => H (fun x => if n - m ≤ x ∧ x < n then r / S ^ (x - (n - m)).toNat % S else v x)) (S.toNat ^ m)
  | 0, v, h => by
    show H v = sm _ 1
    show H v = 0 + H (fun x => if n - ((0 : Nat) : Int) ≤ x ∧ x < n then _ else v x)
    rw [Int.zero_add]
    congr 1
    funext x
    rw [if_neg (by omega)]
  | m + 1, v, h => by
    show sm (fun a => cnt S n H m (up v (n - ((m : Int) + 1)) a)) S.toNat = _
    rw [Nat.pow_succ, sm_two]
    rw [sm_swap]
    refine sm_ext _ (fun a a0 a1 => ?_)
    rw [cnt_all hS m _ (by omega)]
    refine sm_ext _ (fun r r0 r1 => ?_)
    show H _ = H _
    congr 1
    funext x
    have eS : ((S.toNat : Nat) : Int) = S := by omega
    rw [eS]
    by_cases g : x = n - ((m : Int) + 1)
    · rw [if_neg (by omega), g, up_eq, if_pos (by omega), show (n - ((m : Int) + 1) - (n - (((m + 1 : Nat)) : Int))).toNat = 0 by omega, Int.pow_zero, Int.ediv_one]
      exact (dv_q (W := S) (y := r) a0 (by omega)).2.symm
    · by_cases c : n - (m : Int) ≤ x ∧ x < n
      · rw [if_pos c, if_pos (by omega), show (x - (n - (((m + 1 : Nat)) : Int))).toNat = (x - (n - (m : Int))).toNat + 1 by omega, Int.pow_succ, Int.mul_comm (S ^ (x - (n - (m : Int))).toNat) S, ← Int.ediv_ediv_of_nonneg (Int.le_of_lt hS), (dv_q (W := S) (y := r) a0 (by omega)).1]
      · rw [if_neg c, up_ne g, if_neg (by omega)]
end CNT
