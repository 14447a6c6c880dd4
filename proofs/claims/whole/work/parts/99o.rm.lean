/-! the rows whose rank is asked (model): plain words by a letter -/
def raM (n D p : Int) (LW : Int → (Int → Int) → Prop) (d x e : Int) (U : Int → Int) (A : Int → Int → Int) (m : Int) : Prop := ∀ i, 0 ≤ i → i < m → isNF p (sW n D (d + 1)) (nV n D p LW (d + 1).toNat) (eW (if e = 0 then x * sW n D d + U i else U i * n + x)) (A i)
def ceM (n D p : Int) (LW : Int → (Int → Int) → Prop) (d : Int) (u : Int) (A : Int → Int) (x : Int) : Prop := ∃ B C : Int → Int, isNF p (sW n D (d + 1)) (nV n D p LW (d + 1).toNat) (eW (x * sW n D d + u)) B ∧ isNF p (sW n D (d + 1)) (nV n D p LW (d + 1).toNat) (eW (u * n + x)) C ∧ ∀ w, 0 ≤ w → w < sW n D (d + 1) → A (sW n D (d + 1) * x + w) = (B w - C w) % p
theorem raM_s {n D p d x e w m : Int} {LW : Int → (Int → Int) → Prop} {f : Int → Int} {A A' : Int → Int → Int} (hf : ∀ x, 0 ≤ f x ∧ f x ≤ 1) (hw : 0 ≤ w) (hfw : f w = 1) (hV : vSub p (sW n D (d + 1)) (nV n D p LW (d + 1).toNat)) (hm : m = sm f w.toNat) (h : raM n D p LW d x e (fun i => nth f i w.toNat) A m)
    (hA : ∀ i j, 0 ≤ i → i < m → 0 ≤ j → j < sW n D (d + 1) → A' i j = A i j) (hN : isNF p (sW n D (d + 1)) (nV n D p LW (d + 1).toNat) (eW (if e = 0 then x * sW n D d + w else w * n + x)) (A' m)) : raM n D p LW d x e (fun i => nth f i (w + 1).toNat) A' (m + 1) := fun i a b => by
  dsimp only
  by_cases g : i = m
  · rw [g, hm, nth_new hf hw hfw, ← hm]
    exact hN
  · rw [nth_old hf a hw (by omega)]
    exact nf_dst (h i a (by omega)) (fun j a0 a1 => hA i j a (by omega) a0 a1) hV
theorem raM_o {n D p d x e w m : Int} {LW : Int → (Int → Int) → Prop} {f : Int → Int} {A : Int → Int → Int} (hf : ∀ x, 0 ≤ f x ∧ f x ≤ 1) (hw : 0 ≤ w) (hm : m = sm f w.toNat) (h : raM n D p LW d x e (fun i => nth f i w.toNat) A m) : raM n D p LW d x e (fun i => nth f i (w + 1).toNat) A m := fun i a b => by
  dsimp only
  rw [nth_old hf a hw (by omega)]
  exact h i a b
theorem seg_row {X B : Int → Int} {W m i j : Int} (hm : 0 ≤ m) (hi : 0 ≤ i ∧ i < m) (hj : 0 ≤ j ∧ j < W) : seg X (W * m) W B (W * i + j) = X (W * i + j) := by
  refine seg_out (fun g => ?_)
  have h2 : W * (i + 1) ≤ W * m := Int.mul_le_mul_of_nonneg_left (by omega) (by omega)
  rw [Int.mul_add, Int.mul_one] at h2
  omega
/-! the centre (model): a row of each normal word, its letters one behind the other -/
def ceR (n D p : Int) (LW : Int → (Int → Int) → Prop) (d : Int) (U : Int → Int) (A : Int → Int → Int) (m : Int) : Prop := ∀ i x, 0 ≤ i → i < m → 0 ≤ x → x < n → ceM n D p LW d (U i) (A i) x
theorem ceM_b {n D p d u x w : Int} {LW : Int → (Int → Int) → Prop} {A : Int → Int} (hp : sPr p) (h : ceM n D p LW d u A x) (h0 : 0 ≤ w) (h1 : w < sW n D (d + 1)) : 0 ≤ A (sW n D (d + 1) * x + w) ∧ A (sW n D (d + 1) * x + w) < p := by
  obtain ⟨B, C, -, -, h4⟩ := h
  rw [h4 w h0 h1]
  exact sR_lt hp
theorem ceM_c {n D p d u x : Int} {LW : Int → (Int → Int) → Prop} {A A' : Int → Int} (h : ceM n D p LW d u A x) (e : ∀ w, 0 ≤ w → w < sW n D (d + 1) → A' (sW n D (d + 1) * x + w) = A (sW n D (d + 1) * x + w)) : ceM n D p LW d u A' x := by
  obtain ⟨B, C, h1, h2, h3⟩ := h
  exact ⟨B, C, h1, h2, fun w a b => by rw [e w a b]; exact h3 w a b⟩
theorem ceR_s {n D p d w m : Int} {LW : Int → (Int → Int) → Prop} {f : Int → Int} {A A' : Int → Int → Int} (hf : ∀ x, 0 ≤ f x ∧ f x ≤ 1) (hw : 0 ≤ w) (hfw : f w = 1) (hm : m = sm f w.toNat) (h : ceR n D p LW d (fun i => nth f i w.toNat) A m)
    (hA : ∀ i j, 0 ≤ i → i < m → 0 ≤ j → j < n * sW n D (d + 1) → A' i j = A i j) (hN : ∀ x, 0 ≤ x → x < n → ceM n D p LW d w (A' m) x) : ceR n D p LW d (fun i => nth f i (w + 1).toNat) A' (m + 1) := fun i x a b a0 a1 => by
  dsimp only
  by_cases g : i = m
  · rw [g, hm, nth_new hf hw hfw, ← hm]
    exact hN x a0 a1
  · rw [nth_old hf a hw (by omega)]
    refine ceM_c (h i x a (by omega) a0 a1) (fun j b0 b1 => hA i _ a (by omega) ?_ ?_)
    · have := Int.mul_nonneg (show 0 ≤ sW n D (d + 1) by omega) a0; omega
    · have h2 : sW n D (d + 1) * (x + 1) ≤ sW n D (d + 1) * n := Int.mul_le_mul_of_nonneg_left (by omega) (by omega)
      rw [Int.mul_add, Int.mul_one, Int.mul_comm (sW n D (d + 1)) n] at h2
      omega
theorem ceR_o {n D p d w m : Int} {LW : Int → (Int → Int) → Prop} {f : Int → Int} {A : Int → Int → Int} (hf : ∀ x, 0 ≤ f x ∧ f x ≤ 1) (hw : 0 ≤ w) (hm : m = sm f w.toNat) (h : ceR n D p LW d (fun i => nth f i w.toNat) A m) : ceR n D p LW d (fun i => nth f i (w + 1).toNat) A m := fun i x a b a0 a1 => by
  dsimp only
  rw [nth_old hf a hw (by omega)]
  exact h i x a b a0 a1
/-- all columns are within the rests -/
theorem ceR_b {n D p d m : Int} {LW : Int → (Int → Int) → Prop} {U : Int → Int} {A : Int → Int → Int} (hp : sPr p) (hn : 0 ≤ n) (h : ceR n D p LW d U A m) : ∀ i j, 0 ≤ i → i < m → 0 ≤ j → j < n * sW n D (d + 1) → 0 ≤ A i j ∧ A i j < p := fun i j a b a0 a1 => by
  have hW : 0 ≤ sW n D (d + 1) := sW_nn hn
  rw [Int.mul_comm] at a1
  have q := dv hn a0 a1 hW
  have h2 := ceM_b hp (h i (j / sW n D (d + 1)) a b q.2.2.1 q.2.2.2.1) q.2.2.2.2.1 q.2.2.2.2.2.1
  rw [Int.mul_comm (sW n D (d + 1)), q.2.2.2.2.2.2] at h2
  exact h2
